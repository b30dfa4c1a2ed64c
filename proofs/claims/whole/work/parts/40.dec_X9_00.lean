theorem dX9_init_0 : decode cX9_init 0 = .ok (.aload_n 0, 1) := by decide +kernel
theorem dX9_init_1 : decode cX9_init 1 = .ok (.invokespecial 3, 3) := by decide +kernel
theorem dX9_init_4 : decode cX9_init 4 = .ok (.aload_n 0, 1) := by decide +kernel
theorem dX9_init_5 : decode cX9_init 5 = .ok (.new 9, 3) := by decide +kernel
theorem dX9_init_8 : decode cX9_init 8 = .ok (.dup, 1) := by decide +kernel
theorem dX9_init_9 : decode cX9_init 9 = .ok (.invokespecial 11, 3) := by decide +kernel
theorem dX9_init_12 : decode cX9_init 12 = .ok (.putfield 12, 3) := by decide +kernel
theorem dX9_init_15 : decode cX9_init 15 = .ok (.aload_n 0, 1) := by decide +kernel
theorem dX9_init_16 : decode cX9_init 16 = .ok (.new 16, 3) := by decide +kernel
theorem dX9_init_19 : decode cX9_init 19 = .ok (.dup, 1) := by decide +kernel
theorem dX9_init_20 : decode cX9_init 20 = .ok (.invokespecial 18, 3) := by decide +kernel
theorem dX9_init_23 : decode cX9_init 23 = .ok (.putfield 19, 3) := by decide +kernel
theorem dX9_init_26 : decode cX9_init 26 = .ok (.aload_n 0, 1) := by decide +kernel
theorem dX9_init_27 : decode cX9_init 27 = .ok (.bipush 40, 2) := by decide +kernel
theorem dX9_init_29 : decode cX9_init 29 = .ok (.anewarray 23, 3) := by decide +kernel
theorem dX9_init_32 : decode cX9_init 32 = .ok (.putfield 25, 3) := by decide +kernel
theorem dX9_init_35 : decode cX9_init 35 = .ok (.aload_n 0, 1) := by decide +kernel
theorem dX9_init_36 : decode cX9_init 36 = .ok (.bipush 30, 2) := by decide +kernel
theorem dX9_init_38 : decode cX9_init 38 = .ok (.anewarray 29, 3) := by decide +kernel
theorem dX9_init_41 : decode cX9_init 41 = .ok (.putfield 31, 3) := by decide +kernel
theorem dX9_init_44 : decode cX9_init 44 = .ok (.aload_n 0, 1) := by decide +kernel
theorem dX9_init_45 : decode cX9_init 45 = .ok (.bipush 6, 2) := by decide +kernel
theorem dX9_init_47 : decode cX9_init 47 = .ok (.newarray .int, 2) := by decide +kernel
theorem dX9_init_49 : decode cX9_init 49 = .ok (.dup, 1) := by decide +kernel
theorem dX9_init_50 : decode cX9_init 50 = .ok (.iconst 0, 1) := by decide +kernel
theorem dX9_init_51 : decode cX9_init 51 = .ok (.iconst 4, 1) := by decide +kernel
theorem dX9_init_52 : decode cX9_init 52 = .ok (.iastore, 1) := by decide +kernel
theorem dX9_init_53 : decode cX9_init 53 = .ok (.dup, 1) := by decide +kernel
theorem dX9_init_54 : decode cX9_init 54 = .ok (.iconst 1, 1) := by decide +kernel
theorem dX9_init_55 : decode cX9_init 55 = .ok (.iconst 4, 1) := by decide +kernel
theorem dX9_init_56 : decode cX9_init 56 = .ok (.iastore, 1) := by decide +kernel
theorem dX9_init_57 : decode cX9_init 57 = .ok (.dup, 1) := by decide +kernel
theorem dX9_init_58 : decode cX9_init 58 = .ok (.iconst 2, 1) := by decide +kernel
theorem dX9_init_59 : decode cX9_init 59 = .ok (.iconst 0, 1) := by decide +kernel
theorem dX9_init_60 : decode cX9_init 60 = .ok (.iastore, 1) := by decide +kernel
theorem dX9_init_61 : decode cX9_init 61 = .ok (.dup, 1) := by decide +kernel
theorem dX9_init_62 : decode cX9_init 62 = .ok (.iconst 3, 1) := by decide +kernel
theorem dX9_init_63 : decode cX9_init 63 = .ok (.iconst 0, 1) := by decide +kernel
theorem dX9_init_64 : decode cX9_init 64 = .ok (.iastore, 1) := by decide +kernel
theorem dX9_init_65 : decode cX9_init 65 = .ok (.dup, 1) := by decide +kernel
theorem dX9_init_66 : decode cX9_init 66 = .ok (.iconst 4, 1) := by decide +kernel
theorem dX9_init_67 : decode cX9_init 67 = .ok (.iconst 2, 1) := by decide +kernel
theorem dX9_init_68 : decode cX9_init 68 = .ok (.iastore, 1) := by decide +kernel
theorem dX9_init_69 : decode cX9_init 69 = .ok (.dup, 1) := by decide +kernel
theorem dX9_init_70 : decode cX9_init 70 = .ok (.iconst 5, 1) := by decide +kernel
theorem dX9_init_71 : decode cX9_init 71 = .ok (.iconst 2, 1) := by decide +kernel
theorem dX9_init_72 : decode cX9_init 72 = .ok (.iastore, 1) := by decide +kernel
theorem dX9_init_73 : decode cX9_init 73 = .ok (.putfield 35, 3) := by decide +kernel
theorem dX9_init_76 : decode cX9_init 76 = .ok (.aload_n 0, 1) := by decide +kernel
theorem dX9_init_77 : decode cX9_init 77 = .ok (.iconst 0, 1) := by decide +kernel
theorem dX9_init_78 : decode cX9_init 78 = .ok (.putfield 39, 3) := by decide +kernel
theorem dX9_init_81 : decode cX9_init 81 = .ok (.aload_n 0, 1) := by decide +kernel
theorem dX9_init_82 : decode cX9_init 82 = .ok (.iconst 2, 1) := by decide +kernel
theorem dX9_init_83 : decode cX9_init 83 = .ok (.putfield 43, 3) := by decide +kernel
theorem dX9_init_86 : decode cX9_init 86 = .ok (.aload_n 0, 1) := by decide +kernel
theorem dX9_init_87 : decode cX9_init 87 = .ok (.new 46, 3) := by decide +kernel
theorem dX9_init_90 : decode cX9_init 90 = .ok (.dup, 1) := by decide +kernel
theorem dX9_init_91 : decode cX9_init 91 = .ok (.invokespecial 48, 3) := by decide +kernel
theorem dX9_init_94 : decode cX9_init 94 = .ok (.putfield 49, 3) := by decide +kernel
theorem dX9_init_97 : decode cX9_init 97 = .ok (.aload_n 0, 1) := by decide +kernel
theorem dX9_init_98 : decode cX9_init 98 = .ok (.aload_n 0, 1) := by decide +kernel
theorem dX9_init_99 : decode cX9_init 99 = .ok (.getfield 49, 3) := by decide +kernel
theorem dX9_init_102 : decode cX9_init 102 = .ok (.getfield 53, 3) := by decide +kernel
theorem dX9_init_105 : decode cX9_init 105 = .ok (.putfield 57, 3) := by decide +kernel
theorem dX9_init_108 : decode cX9_init 108 = .ok (.aload_n 0, 1) := by decide +kernel
theorem dX9_init_109 : decode cX9_init 109 = .ok (.iconst (-1), 1) := by decide +kernel
theorem dX9_init_110 : decode cX9_init 110 = .ok (.putfield 58, 3) := by decide +kernel
theorem dX9_init_113 : decode cX9_init 113 = .ok (.aload_n 0, 1) := by decide +kernel
theorem dX9_init_114 : decode cX9_init 114 = .ok (.iconst (-1), 1) := by decide +kernel
theorem dX9_init_115 : decode cX9_init 115 = .ok (.putfield 61, 3) := by decide +kernel
theorem dX9_init_118 : decode cX9_init 118 = .ok (.aload_n 0, 1) := by decide +kernel
theorem dX9_init_119 : decode cX9_init 119 = .ok (.iconst 4, 1) := by decide +kernel
theorem dX9_init_120 : decode cX9_init 120 = .ok (.anewarray 64, 3) := by decide +kernel
theorem dX9_init_123 : decode cX9_init 123 = .ok (.putfield 66, 3) := by decide +kernel
theorem dX9_init_126 : decode cX9_init 126 = .ok (.aload_n 0, 1) := by decide +kernel
theorem dX9_init_127 : decode cX9_init 127 = .ok (.bipush 10, 2) := by decide +kernel
theorem dX9_init_129 : decode cX9_init 129 = .ok (.anewarray 70, 3) := by decide +kernel
theorem dX9_init_132 : decode cX9_init 132 = .ok (.putfield 72, 3) := by decide +kernel
theorem dX9_init_135 : decode cX9_init 135 = .ok (.aload_n 0, 1) := by decide +kernel
theorem dX9_init_136 : decode cX9_init 136 = .ok (.new 76, 3) := by decide +kernel
theorem dX9_init_139 : decode cX9_init 139 = .ok (.dup, 1) := by decide +kernel
theorem dX9_init_140 : decode cX9_init 140 = .ok (.invokespecial 78, 3) := by decide +kernel
theorem dX9_init_143 : decode cX9_init 143 = .ok (.putfield 79, 3) := by decide +kernel
theorem dX9_init_146 : decode cX9_init 146 = .ok (.aload_n 0, 1) := by decide +kernel
theorem dX9_init_147 : decode cX9_init 147 = .ok (.bipush 6, 2) := by decide +kernel
theorem dX9_init_149 : decode cX9_init 149 = .ok (.newarray .int, 2) := by decide +kernel
theorem dX9_init_151 : decode cX9_init 151 = .ok (.putfield 83, 3) := by decide +kernel
theorem dX9_init_154 : decode cX9_init 154 = .ok (.iconst 0, 1) := by decide +kernel
theorem dX9_init_155 : decode cX9_init 155 = .ok (.istore_n 1, 1) := by decide +kernel
theorem dX9_init_156 : decode cX9_init 156 = .ok (.iload_n 1, 1) := by decide +kernel
theorem dX9_init_157 : decode cX9_init 157 = .ok (.iconst 4, 1) := by decide +kernel
theorem dX9_init_158 : decode cX9_init 158 = .ok (.if_icmp .ge 22, 3) := by decide +kernel
theorem dX9_init_161 : decode cX9_init 161 = .ok (.aload_n 0, 1) := by decide +kernel
theorem dX9_init_162 : decode cX9_init 162 = .ok (.getfield 66, 3) := by decide +kernel
theorem dX9_init_165 : decode cX9_init 165 = .ok (.iload_n 1, 1) := by decide +kernel
theorem dX9_init_166 : decode cX9_init 166 = .ok (.new 64, 3) := by decide +kernel
theorem dX9_init_169 : decode cX9_init 169 = .ok (.dup, 1) := by decide +kernel
theorem dX9_init_170 : decode cX9_init 170 = .ok (.invokespecial 86, 3) := by decide +kernel
theorem dX9_init_173 : decode cX9_init 173 = .ok (.aastore, 1) := by decide +kernel
theorem dX9_init_174 : decode cX9_init 174 = .ok (.iinc 1 1, 3) := by decide +kernel
theorem dX9_init_177 : decode cX9_init 177 = .ok (.goto (-21), 3) := by decide +kernel
theorem dX9_init_180 : decode cX9_init 180 = .ok (.iconst 0, 1) := by decide +kernel
theorem dX9_init_181 : decode cX9_init 181 = .ok (.istore_n 1, 1) := by decide +kernel
theorem dX9_init_182 : decode cX9_init 182 = .ok (.iload_n 1, 1) := by decide +kernel
theorem dX9_init_183 : decode cX9_init 183 = .ok (.bipush 10, 2) := by decide +kernel
theorem dX9_init_185 : decode cX9_init 185 = .ok (.if_icmp .ge 22, 3) := by decide +kernel
theorem dX9_init_188 : decode cX9_init 188 = .ok (.aload_n 0, 1) := by decide +kernel
theorem dX9_init_189 : decode cX9_init 189 = .ok (.getfield 72, 3) := by decide +kernel
theorem dX9_init_192 : decode cX9_init 192 = .ok (.iload_n 1, 1) := by decide +kernel
theorem dX9_init_193 : decode cX9_init 193 = .ok (.new 70, 3) := by decide +kernel
theorem dX9_init_196 : decode cX9_init 196 = .ok (.dup, 1) := by decide +kernel
theorem dX9_init_197 : decode cX9_init 197 = .ok (.invokespecial 87, 3) := by decide +kernel
theorem dX9_init_200 : decode cX9_init 200 = .ok (.aastore, 1) := by decide +kernel
theorem dX9_init_201 : decode cX9_init 201 = .ok (.iinc 1 1, 3) := by decide +kernel
theorem dX9_init_204 : decode cX9_init 204 = .ok (.goto (-22), 3) := by decide +kernel
theorem dX9_init_207 : decode cX9_init 207 = .ok (.return_, 1) := by decide +kernel
theorem dX9_feed_0 : decode cX9_feed 0 = .ok (.iload_n 3, 1) := by decide +kernel
theorem dX9_feed_1 : decode cX9_feed 1 = .ok (.iconst 1, 1) := by decide +kernel
theorem dX9_feed_2 : decode cX9_feed 2 = .ok (.bipush 8, 2) := by decide +kernel
theorem dX9_feed_4 : decode cX9_feed 4 = .ok (.invokestatic 88, 3) := by decide +kernel
theorem dX9_feed_7 : decode cX9_feed 7 = .ok (.ifCond .ne 6, 3) := by decide +kernel
theorem dX9_feed_10 : decode cX9_feed 10 = .ok (.bipush (-2), 2) := by decide +kernel
theorem dX9_feed_12 : decode cX9_feed 12 = .ok (.ireturn, 1) := by decide +kernel
theorem dX9_feed_13 : decode cX9_feed 13 = .ok (.aload_n 0, 1) := by decide +kernel
theorem dX9_feed_14 : decode cX9_feed 14 = .ok (.getfield 12, 3) := by decide +kernel
theorem dX9_feed_17 : decode cX9_feed 17 = .ok (.getfield 92, 3) := by decide +kernel
theorem dX9_feed_20 : decode cX9_feed 20 = .ok (.iload_n 3, 1) := by decide +kernel
theorem dX9_feed_21 : decode cX9_feed 21 = .ok (.iadd, 1) := by decide +kernel
theorem dX9_feed_22 : decode cX9_feed 22 = .ok (.sipush 130, 3) := by decide +kernel
theorem dX9_feed_25 : decode cX9_feed 25 = .ok (.if_icmp .le 6, 3) := by decide +kernel
theorem dX9_feed_28 : decode cX9_feed 28 = .ok (.bipush (-4), 2) := by decide +kernel
theorem dX9_feed_30 : decode cX9_feed 30 = .ok (.ireturn, 1) := by decide +kernel
theorem dX9_feed_31 : decode cX9_feed 31 = .ok (.aload_n 0, 1) := by decide +kernel
theorem dX9_feed_32 : decode cX9_feed 32 = .ok (.getfield 12, 3) := by decide +kernel
theorem dX9_feed_35 : decode cX9_feed 35 = .ok (.lload_n 1, 1) := by decide +kernel
theorem dX9_feed_36 : decode cX9_feed 36 = .ok (.iload_n 3, 1) := by decide +kernel
theorem dX9_feed_37 : decode cX9_feed 37 = .ok (.invokevirtual 95, 3) := by decide +kernel
theorem dX9_feed_40 : decode cX9_feed 40 = .ok (.aload_n 0, 1) := by decide +kernel
theorem dX9_feed_41 : decode cX9_feed 41 = .ok (.getfield 12, 3) := by decide +kernel
theorem dX9_feed_44 : decode cX9_feed 44 = .ok (.getfield 92, 3) := by decide +kernel
theorem dX9_feed_47 : decode cX9_feed 47 = .ok (.ireturn, 1) := by decide +kernel
theorem dX9_bolt_0 : decode cX9_bolt 0 = .ok (.iload_n 1, 1) := by decide +kernel
theorem dX9_bolt_1 : decode cX9_bolt 1 = .ok (.iconst 0, 1) := by decide +kernel
theorem dX9_bolt_2 : decode cX9_bolt 2 = .ok (.bipush 9, 2) := by decide +kernel
theorem dX9_bolt_4 : decode cX9_bolt 4 = .ok (.invokestatic 88, 3) := by decide +kernel
theorem dX9_bolt_7 : decode cX9_bolt 7 = .ok (.ifCond .eq 12, 3) := by decide +kernel
theorem dX9_bolt_10 : decode cX9_bolt 10 = .ok (.iload_n 2, 1) := by decide +kernel
theorem dX9_bolt_11 : decode cX9_bolt 11 = .ok (.iconst 0, 1) := by decide +kernel
theorem dX9_bolt_12 : decode cX9_bolt 12 = .ok (.iconst 1, 1) := by decide +kernel
theorem dX9_bolt_13 : decode cX9_bolt 13 = .ok (.invokestatic 88, 3) := by decide +kernel
theorem dX9_bolt_16 : decode cX9_bolt 16 = .ok (.ifCond .ne 6, 3) := by decide +kernel
theorem dX9_bolt_19 : decode cX9_bolt 19 = .ok (.bipush (-2), 2) := by decide +kernel
theorem dX9_bolt_21 : decode cX9_bolt 21 = .ok (.ireturn, 1) := by decide +kernel
theorem dX9_bolt_22 : decode cX9_bolt 22 = .ok (.aload_n 0, 1) := by decide +kernel
theorem dX9_bolt_23 : decode cX9_bolt 23 = .ok (.getfield 99, 3) := by decide +kernel
theorem dX9_bolt_26 : decode cX9_bolt 26 = .ok (.bipush 40, 2) := by decide +kernel
theorem dX9_bolt_28 : decode cX9_bolt 28 = .ok (.if_icmp .lt 6, 3) := by decide +kernel
theorem dX9_bolt_31 : decode cX9_bolt 31 = .ok (.bipush (-4), 2) := by decide +kernel
theorem dX9_bolt_33 : decode cX9_bolt 33 = .ok (.ireturn, 1) := by decide +kernel
theorem dX9_bolt_34 : decode cX9_bolt 34 = .ok (.aload_n 0, 1) := by decide +kernel
theorem dX9_bolt_35 : decode cX9_bolt 35 = .ok (.getfield 12, 3) := by decide +kernel
theorem dX9_bolt_38 : decode cX9_bolt 38 = .ok (.invokevirtual 102, 3) := by decide +kernel
theorem dX9_bolt_41 : decode cX9_bolt 41 = .ok (.istore_n 3, 1) := by decide +kernel
theorem dX9_bolt_42 : decode cX9_bolt 42 = .ok (.aload_n 0, 1) := by decide +kernel
theorem dX9_bolt_43 : decode cX9_bolt 43 = .ok (.getfield 12, 3) := by decide +kernel
theorem dX9_bolt_46 : decode cX9_bolt 46 = .ok (.iconst 0, 1) := by decide +kernel
theorem dX9_bolt_47 : decode cX9_bolt 47 = .ok (.putfield 92, 3) := by decide +kernel
theorem dX9_bolt_50 : decode cX9_bolt 50 = .ok (.iload_n 3, 1) := by decide +kernel
theorem dX9_bolt_51 : decode cX9_bolt 51 = .ok (.ifCond .ge 5, 3) := by decide +kernel
theorem dX9_bolt_54 : decode cX9_bolt 54 = .ok (.iload_n 3, 1) := by decide +kernel
theorem dX9_bolt_55 : decode cX9_bolt 55 = .ok (.ireturn, 1) := by decide +kernel
theorem dX9_bolt_56 : decode cX9_bolt 56 = .ok (.aload_n 0, 1) := by decide +kernel
theorem dX9_bolt_57 : decode cX9_bolt 57 = .ok (.new 23, 3) := by decide +kernel
theorem dX9_bolt_60 : decode cX9_bolt 60 = .ok (.dup, 1) := by decide +kernel
theorem dX9_bolt_61 : decode cX9_bolt 61 = .ok (.aload_n 0, 1) := by decide +kernel
theorem dX9_bolt_62 : decode cX9_bolt 62 = .ok (.getfield 12, 3) := by decide +kernel
theorem dX9_bolt_65 : decode cX9_bolt 65 = .ok (.getfield 106, 3) := by decide +kernel
theorem dX9_bolt_68 : decode cX9_bolt 68 = .ok (.iload_n 3, 1) := by decide +kernel
theorem dX9_bolt_69 : decode cX9_bolt 69 = .ok (.invokestatic 109, 3) := by decide +kernel
theorem dX9_bolt_72 : decode cX9_bolt 72 = .ok (.iload_n 1, 1) := by decide +kernel
theorem dX9_bolt_73 : decode cX9_bolt 73 = .ok (.iload_n 2, 1) := by decide +kernel
theorem dX9_bolt_74 : decode cX9_bolt 74 = .ok (.invokespecial 115, 3) := by decide +kernel
theorem dX9_bolt_77 : decode cX9_bolt 77 = .ok (.invokevirtual 118, 3) := by decide +kernel
theorem dX9_bolt_80 : decode cX9_bolt 80 = .ok (.ireturn, 1) := by decide +kernel
theorem dX9_about_0 : decode cX9_about 0 = .ok (.aload_n 0, 1) := by decide +kernel
theorem dX9_about_1 : decode cX9_about 1 = .ok (.iload_n 1, 1) := by decide +kernel
theorem dX9_about_2 : decode cX9_about 2 = .ok (.invokevirtual 122, 3) := by decide +kernel
theorem dX9_about_5 : decode cX9_about 5 = .ok (.astore_n 3, 1) := by decide +kernel
theorem dX9_about_6 : decode cX9_about 6 = .ok (.aload_n 3, 1) := by decide +kernel
theorem dX9_about_7 : decode cX9_about 7 = .ok (.ifnonnull 5, 3) := by decide +kernel
theorem dX9_about_10 : decode cX9_about 10 = .ok (.iconst (-1), 1) := by decide +kernel
theorem dX9_about_11 : decode cX9_about 11 = .ok (.ireturn, 1) := by decide +kernel
theorem dX9_about_12 : decode cX9_about 12 = .ok (.iload_n 2, 1) := by decide +kernel
theorem dX9_about_13 : decode cX9_about 13 = .ok (.tableswitch 43 0 2 #[27, 33, 38], 27) := by decide +kernel
theorem dX9_about_40 : decode cX9_about 40 = .ok (.aload_n 3, 1) := by decide +kernel
theorem dX9_about_41 : decode cX9_about 41 = .ok (.getfield 126, 3) := by decide +kernel
theorem dX9_about_44 : decode cX9_about 44 = .ok (.arraylength, 1) := by decide +kernel
theorem dX9_about_45 : decode cX9_about 45 = .ok (.ireturn, 1) := by decide +kernel
theorem dX9_about_46 : decode cX9_about 46 = .ok (.aload_n 3, 1) := by decide +kernel
theorem dX9_about_47 : decode cX9_about 47 = .ok (.getfield 127, 3) := by decide +kernel
theorem dX9_about_50 : decode cX9_about 50 = .ok (.ireturn, 1) := by decide +kernel
theorem dX9_about_51 : decode cX9_about 51 = .ok (.aload_n 3, 1) := by decide +kernel
theorem dX9_about_52 : decode cX9_about 52 = .ok (.getfield 130, 3) := by decide +kernel
theorem dX9_about_55 : decode cX9_about 55 = .ok (.ireturn, 1) := by decide +kernel
theorem dX9_about_56 : decode cX9_about 56 = .ok (.iconst (-1), 1) := by decide +kernel
theorem dX9_about_57 : decode cX9_about 57 = .ok (.ireturn, 1) := by decide +kernel
theorem dX9_row_0 : decode cX9_row 0 = .ok (.aload_n 0, 1) := by decide +kernel
theorem dX9_row_1 : decode cX9_row 1 = .ok (.iload_n 1, 1) := by decide +kernel
theorem dX9_row_2 : decode cX9_row 2 = .ok (.invokevirtual 122, 3) := by decide +kernel
theorem dX9_row_5 : decode cX9_row 5 = .ok (.astore 4, 2) := by decide +kernel
theorem dX9_row_7 : decode cX9_row 7 = .ok (.aload 4, 2) := by decide +kernel
theorem dX9_row_9 : decode cX9_row 9 = .ok (.ifnonnull 5, 3) := by decide +kernel
theorem dX9_row_12 : decode cX9_row 12 = .ok (.iconst (-1), 1) := by decide +kernel
theorem dX9_row_13 : decode cX9_row 13 = .ok (.ireturn, 1) := by decide +kernel
theorem dX9_row_14 : decode cX9_row 14 = .ok (.aload 4, 2) := by decide +kernel
theorem dX9_row_16 : decode cX9_row 16 = .ok (.iload_n 2, 1) := by decide +kernel
theorem dX9_row_17 : decode cX9_row 17 = .ok (.iload_n 3, 1) := by decide +kernel
theorem dX9_row_18 : decode cX9_row 18 = .ok (.invokevirtual 133, 3) := by decide +kernel
theorem dX9_row_21 : decode cX9_row 21 = .ok (.ireturn, 1) := by decide +kernel
theorem dX9_wash_0 : decode cX9_wash 0 = .ok (.aload_n 0, 1) := by decide +kernel
theorem dX9_wash_1 : decode cX9_wash 1 = .ok (.iload_n 1, 1) := by decide +kernel
theorem dX9_wash_2 : decode cX9_wash 2 = .ok (.invokevirtual 122, 3) := by decide +kernel
theorem dX9_wash_5 : decode cX9_wash 5 = .ok (.astore_n 2, 1) := by decide +kernel
theorem dX9_wash_6 : decode cX9_wash 6 = .ok (.aload_n 2, 1) := by decide +kernel
theorem dX9_wash_7 : decode cX9_wash 7 = .ok (.ifnonnull 5, 3) := by decide +kernel
theorem dX9_wash_10 : decode cX9_wash 10 = .ok (.iconst (-1), 1) := by decide +kernel
theorem dX9_wash_11 : decode cX9_wash 11 = .ok (.ireturn, 1) := by decide +kernel
theorem dX9_wash_12 : decode cX9_wash 12 = .ok (.aload_n 2, 1) := by decide +kernel
theorem dX9_wash_13 : decode cX9_wash 13 = .ok (.getfield 127, 3) := by decide +kernel
theorem dX9_wash_16 : decode cX9_wash 16 = .ok (.ifCond .le 13, 3) := by decide +kernel
theorem dX9_wash_19 : decode cX9_wash 19 = .ok (.aload_n 2, 1) := by decide +kernel
theorem dX9_wash_20 : decode cX9_wash 20 = .ok (.dup, 1) := by decide +kernel
theorem dX9_wash_21 : decode cX9_wash 21 = .ok (.getfield 127, 3) := by decide +kernel
theorem dX9_wash_24 : decode cX9_wash 24 = .ok (.iconst 1, 1) := by decide +kernel
theorem dX9_wash_25 : decode cX9_wash 25 = .ok (.isub, 1) := by decide +kernel
theorem dX9_wash_26 : decode cX9_wash 26 = .ok (.putfield 127, 3) := by decide +kernel
theorem dX9_wash_29 : decode cX9_wash 29 = .ok (.aload_n 2, 1) := by decide +kernel
theorem dX9_wash_30 : decode cX9_wash 30 = .ok (.getfield 127, 3) := by decide +kernel
theorem dX9_wash_33 : decode cX9_wash 33 = .ok (.ireturn, 1) := by decide +kernel
theorem dX9_dye_0 : decode cX9_dye 0 = .ok (.aload_n 0, 1) := by decide +kernel
theorem dX9_dye_1 : decode cX9_dye 1 = .ok (.iload_n 1, 1) := by decide +kernel
theorem dX9_dye_2 : decode cX9_dye 2 = .ok (.invokevirtual 122, 3) := by decide +kernel
theorem dX9_dye_5 : decode cX9_dye 5 = .ok (.astore_n 3, 1) := by decide +kernel
theorem dX9_dye_6 : decode cX9_dye 6 = .ok (.aload_n 3, 1) := by decide +kernel
theorem dX9_dye_7 : decode cX9_dye 7 = .ok (.ifnonnull 5, 3) := by decide +kernel
theorem dX9_dye_10 : decode cX9_dye 10 = .ok (.iconst (-1), 1) := by decide +kernel
theorem dX9_dye_11 : decode cX9_dye 11 = .ok (.ireturn, 1) := by decide +kernel
theorem dX9_dye_12 : decode cX9_dye 12 = .ok (.iload_n 2, 1) := by decide +kernel
theorem dX9_dye_13 : decode cX9_dye 13 = .ok (.iconst 0, 1) := by decide +kernel
theorem dX9_dye_14 : decode cX9_dye 14 = .ok (.bipush 9, 2) := by decide +kernel
theorem dX9_dye_16 : decode cX9_dye 16 = .ok (.invokestatic 88, 3) := by decide +kernel
theorem dX9_dye_19 : decode cX9_dye 19 = .ok (.ifCond .ne 6, 3) := by decide +kernel
theorem dX9_dye_22 : decode cX9_dye 22 = .ok (.bipush (-2), 2) := by decide +kernel
theorem dX9_dye_24 : decode cX9_dye 24 = .ok (.ireturn, 1) := by decide +kernel
theorem dX9_dye_25 : decode cX9_dye 25 = .ok (.iload_n 2, 1) := by decide +kernel
theorem dX9_dye_26 : decode cX9_dye 26 = .ok (.aload_n 3, 1) := by decide +kernel
theorem dX9_dye_27 : decode cX9_dye 27 = .ok (.getfield 127, 3) := by decide +kernel
theorem dX9_dye_30 : decode cX9_dye 30 = .ok (.if_icmp .gt 6, 3) := by decide +kernel
theorem dX9_dye_33 : decode cX9_dye 33 = .ok (.bipush (-3), 2) := by decide +kernel
theorem dX9_dye_35 : decode cX9_dye 35 = .ok (.ireturn, 1) := by decide +kernel
theorem dX9_dye_36 : decode cX9_dye 36 = .ok (.aload_n 3, 1) := by decide +kernel
theorem dX9_dye_37 : decode cX9_dye 37 = .ok (.iload_n 2, 1) := by decide +kernel
theorem dX9_dye_38 : decode cX9_dye 38 = .ok (.invokevirtual 137, 3) := by decide +kernel
theorem dX9_dye_41 : decode cX9_dye 41 = .ok (.ireturn, 1) := by decide +kernel
theorem dX9_measure_0 : decode cX9_measure 0 = .ok (.iload_n 1, 1) := by decide +kernel
theorem dX9_measure_1 : decode cX9_measure 1 = .ok (.iconst 1, 1) := by decide +kernel
theorem dX9_measure_2 : decode cX9_measure 2 = .ok (.bipush 30, 2) := by decide +kernel
theorem dX9_measure_4 : decode cX9_measure 4 = .ok (.invokestatic 88, 3) := by decide +kernel
theorem dX9_measure_7 : decode cX9_measure 7 = .ok (.ifCond .eq 23, 3) := by decide +kernel
theorem dX9_measure_10 : decode cX9_measure 10 = .ok (.iload_n 2, 1) := by decide +kernel
theorem dX9_measure_11 : decode cX9_measure 11 = .ok (.iconst 1, 1) := by decide +kernel
theorem dX9_measure_12 : decode cX9_measure 12 = .ok (.bipush 30, 2) := by decide +kernel
theorem dX9_measure_14 : decode cX9_measure 14 = .ok (.invokestatic 88, 3) := by decide +kernel
theorem dX9_measure_17 : decode cX9_measure 17 = .ok (.ifCond .eq 13, 3) := by decide +kernel
theorem dX9_measure_20 : decode cX9_measure 20 = .ok (.iload_n 3, 1) := by decide +kernel
theorem dX9_measure_21 : decode cX9_measure 21 = .ok (.iconst 1, 1) := by decide +kernel
theorem dX9_measure_22 : decode cX9_measure 22 = .ok (.bipush 30, 2) := by decide +kernel
theorem dX9_measure_24 : decode cX9_measure 24 = .ok (.invokestatic 88, 3) := by decide +kernel
theorem dX9_measure_27 : decode cX9_measure 27 = .ok (.ifCond .ne 6, 3) := by decide +kernel
theorem dX9_measure_30 : decode cX9_measure 30 = .ok (.bipush (-2), 2) := by decide +kernel
theorem dX9_measure_32 : decode cX9_measure 32 = .ok (.ireturn, 1) := by decide +kernel
theorem dX9_measure_33 : decode cX9_measure 33 = .ok (.aload_n 0, 1) := by decide +kernel
theorem dX9_measure_34 : decode cX9_measure 34 = .ok (.getfield 35, 3) := by decide +kernel
theorem dX9_measure_37 : decode cX9_measure 37 = .ok (.iconst 0, 1) := by decide +kernel
theorem dX9_measure_38 : decode cX9_measure 38 = .ok (.iload_n 1, 1) := by decide +kernel
theorem dX9_measure_39 : decode cX9_measure 39 = .ok (.iastore, 1) := by decide +kernel
theorem dX9_measure_40 : decode cX9_measure 40 = .ok (.aload_n 0, 1) := by decide +kernel
theorem dX9_measure_41 : decode cX9_measure 41 = .ok (.getfield 35, 3) := by decide +kernel
theorem dX9_measure_44 : decode cX9_measure 44 = .ok (.iconst 1, 1) := by decide +kernel
theorem dX9_measure_45 : decode cX9_measure 45 = .ok (.iload_n 1, 1) := by decide +kernel
theorem dX9_measure_46 : decode cX9_measure 46 = .ok (.iastore, 1) := by decide +kernel
theorem dX9_measure_47 : decode cX9_measure 47 = .ok (.aload_n 0, 1) := by decide +kernel
theorem dX9_measure_48 : decode cX9_measure 48 = .ok (.getfield 35, 3) := by decide +kernel
theorem dX9_measure_51 : decode cX9_measure 51 = .ok (.iconst 4, 1) := by decide +kernel
theorem dX9_measure_52 : decode cX9_measure 52 = .ok (.iload_n 2, 1) := by decide +kernel
theorem dX9_measure_53 : decode cX9_measure 53 = .ok (.iastore, 1) := by decide +kernel
theorem dX9_measure_54 : decode cX9_measure 54 = .ok (.aload_n 0, 1) := by decide +kernel
theorem dX9_measure_55 : decode cX9_measure 55 = .ok (.getfield 35, 3) := by decide +kernel
theorem dX9_measure_58 : decode cX9_measure 58 = .ok (.iconst 5, 1) := by decide +kernel
theorem dX9_measure_59 : decode cX9_measure 59 = .ok (.iload_n 3, 1) := by decide +kernel
theorem dX9_measure_60 : decode cX9_measure 60 = .ok (.iastore, 1) := by decide +kernel
theorem dX9_measure_61 : decode cX9_measure 61 = .ok (.iconst 0, 1) := by decide +kernel
theorem dX9_measure_62 : decode cX9_measure 62 = .ok (.ireturn, 1) := by decide +kernel
theorem dX9_set_0 : decode cX9_set 0 = .ok (.iload_n 1, 1) := by decide +kernel
theorem dX9_set_1 : decode cX9_set 1 = .ok (.iconst 0, 1) := by decide +kernel
theorem dX9_set_2 : decode cX9_set 2 = .ok (.iconst 1, 1) := by decide +kernel
theorem dX9_set_3 : decode cX9_set 3 = .ok (.invokestatic 88, 3) := by decide +kernel
theorem dX9_set_6 : decode cX9_set 6 = .ok (.ifCond .ne 5, 3) := by decide +kernel
theorem dX9_set_9 : decode cX9_set 9 = .ok (.iconst (-1), 1) := by decide +kernel
theorem dX9_set_10 : decode cX9_set 10 = .ok (.ireturn, 1) := by decide +kernel
theorem dX9_set_11 : decode cX9_set 11 = .ok (.iload_n 2, 1) := by decide +kernel
theorem dX9_set_12 : decode cX9_set 12 = .ok (.iconst 0, 1) := by decide +kernel
theorem dX9_set_13 : decode cX9_set 13 = .ok (.bipush 9, 2) := by decide +kernel
theorem dX9_set_15 : decode cX9_set 15 = .ok (.invokestatic 88, 3) := by decide +kernel
theorem dX9_set_18 : decode cX9_set 18 = .ok (.ifCond .ne 6, 3) := by decide +kernel
theorem dX9_set_21 : decode cX9_set 21 = .ok (.bipush (-2), 2) := by decide +kernel
theorem dX9_set_23 : decode cX9_set 23 = .ok (.ireturn, 1) := by decide +kernel
theorem dX9_set_24 : decode cX9_set 24 = .ok (.iload_n 1, 1) := by decide +kernel
theorem dX9_set_25 : decode cX9_set 25 = .ok (.ifCond .ne 10, 3) := by decide +kernel
theorem dX9_set_28 : decode cX9_set 28 = .ok (.aload_n 0, 1) := by decide +kernel
theorem dX9_set_29 : decode cX9_set 29 = .ok (.getfield 39, 3) := by decide +kernel
theorem dX9_set_32 : decode cX9_set 32 = .ok (.goto 7, 3) := by decide +kernel
theorem dX9_set_35 : decode cX9_set 35 = .ok (.aload_n 0, 1) := by decide +kernel
theorem dX9_set_36 : decode cX9_set 36 = .ok (.getfield 43, 3) := by decide +kernel
theorem dX9_set_39 : decode cX9_set 39 = .ok (.istore_n 3, 1) := by decide +kernel
theorem dX9_set_40 : decode cX9_set 40 = .ok (.iload_n 1, 1) := by decide +kernel
theorem dX9_set_41 : decode cX9_set 41 = .ok (.ifCond .ne 11, 3) := by decide +kernel
theorem dX9_set_44 : decode cX9_set 44 = .ok (.aload_n 0, 1) := by decide +kernel
theorem dX9_set_45 : decode cX9_set 45 = .ok (.iload_n 2, 1) := by decide +kernel
theorem dX9_set_46 : decode cX9_set 46 = .ok (.putfield 39, 3) := by decide +kernel
theorem dX9_set_49 : decode cX9_set 49 = .ok (.goto 8, 3) := by decide +kernel
theorem dX9_set_52 : decode cX9_set 52 = .ok (.aload_n 0, 1) := by decide +kernel
theorem dX9_set_53 : decode cX9_set 53 = .ok (.iload_n 2, 1) := by decide +kernel
theorem dX9_set_54 : decode cX9_set 54 = .ok (.putfield 43, 3) := by decide +kernel
theorem dX9_set_57 : decode cX9_set 57 = .ok (.iload_n 3, 1) := by decide +kernel
theorem dX9_set_58 : decode cX9_set 58 = .ok (.ireturn, 1) := by decide +kernel
theorem dX9_sleeves_0 : decode cX9_sleeves 0 = .ok (.aload_n 0, 1) := by decide +kernel
theorem dX9_sleeves_1 : decode cX9_sleeves 1 = .ok (.iload_n 1, 1) := by decide +kernel
theorem dX9_sleeves_2 : decode cX9_sleeves 2 = .ok (.invokevirtual 122, 3) := by decide +kernel
theorem dX9_sleeves_5 : decode cX9_sleeves 5 = .ok (.astore_n 2, 1) := by decide +kernel
theorem dX9_sleeves_6 : decode cX9_sleeves 6 = .ok (.aload_n 2, 1) := by decide +kernel
theorem dX9_sleeves_7 : decode cX9_sleeves 7 = .ok (.ifnonnull 5, 3) := by decide +kernel
theorem dX9_sleeves_10 : decode cX9_sleeves 10 = .ok (.iconst (-1), 1) := by decide +kernel
theorem dX9_sleeves_11 : decode cX9_sleeves 11 = .ok (.ireturn, 1) := by decide +kernel
theorem dX9_sleeves_12 : decode cX9_sleeves 12 = .ok (.aload_n 0, 1) := by decide +kernel
theorem dX9_sleeves_13 : decode cX9_sleeves 13 = .ok (.aload_n 2, 1) := by decide +kernel
theorem dX9_sleeves_14 : decode cX9_sleeves 14 = .ok (.invokevirtual 141, 3) := by decide +kernel
theorem dX9_sleeves_17 : decode cX9_sleeves 17 = .ok (.ifCond .eq 12, 3) := by decide +kernel
theorem dX9_sleeves_20 : decode cX9_sleeves 20 = .ok (.aload_n 0, 1) := by decide +kernel
theorem dX9_sleeves_21 : decode cX9_sleeves 21 = .ok (.getfield 35, 3) := by decide +kernel
theorem dX9_sleeves_24 : decode cX9_sleeves 24 = .ok (.iconst 2, 1) := by decide +kernel
theorem dX9_sleeves_25 : decode cX9_sleeves 25 = .ok (.iaload, 1) := by decide +kernel
theorem dX9_sleeves_26 : decode cX9_sleeves 26 = .ok (.goto 5, 3) := by decide +kernel
theorem dX9_sleeves_29 : decode cX9_sleeves 29 = .ok (.bipush (-3), 2) := by decide +kernel
theorem dX9_sleeves_31 : decode cX9_sleeves 31 = .ok (.ireturn, 1) := by decide +kernel
theorem dX9_ugly_0 : decode cX9_ugly 0 = .ok (.aload_n 0, 1) := by decide +kernel
theorem dX9_ugly_1 : decode cX9_ugly 1 = .ok (.iload_n 1, 1) := by decide +kernel
theorem dX9_ugly_2 : decode cX9_ugly 2 = .ok (.invokevirtual 122, 3) := by decide +kernel
theorem dX9_ugly_5 : decode cX9_ugly 5 = .ok (.astore 4, 2) := by decide +kernel
theorem dX9_ugly_7 : decode cX9_ugly 7 = .ok (.aload 4, 2) := by decide +kernel
theorem dX9_ugly_9 : decode cX9_ugly 9 = .ok (.ifnonnull 5, 3) := by decide +kernel
theorem dX9_ugly_12 : decode cX9_ugly 12 = .ok (.iconst (-1), 1) := by decide +kernel
theorem dX9_ugly_13 : decode cX9_ugly 13 = .ok (.ireturn, 1) := by decide +kernel
theorem dX9_ugly_14 : decode cX9_ugly 14 = .ok (.aload 4, 2) := by decide +kernel
theorem dX9_ugly_16 : decode cX9_ugly 16 = .ok (.iload_n 2, 1) := by decide +kernel
theorem dX9_ugly_17 : decode cX9_ugly 17 = .ok (.iload_n 3, 1) := by decide +kernel
theorem dX9_ugly_18 : decode cX9_ugly 18 = .ok (.invokevirtual 145, 3) := by decide +kernel
theorem dX9_ugly_21 : decode cX9_ugly 21 = .ok (.ifCond .ne 6, 3) := by decide +kernel
theorem dX9_ugly_24 : decode cX9_ugly 24 = .ok (.bipush (-2), 2) := by decide +kernel
theorem dX9_ugly_26 : decode cX9_ugly 26 = .ok (.ireturn, 1) := by decide +kernel
theorem dX9_ugly_27 : decode cX9_ugly 27 = .ok (.aload_n 0, 1) := by decide +kernel
theorem dX9_ugly_28 : decode cX9_ugly 28 = .ok (.aload 4, 2) := by decide +kernel
theorem dX9_ugly_30 : decode cX9_ugly 30 = .ok (.invokevirtual 141, 3) := by decide +kernel
theorem dX9_ugly_33 : decode cX9_ugly 33 = .ok (.ifCond .ne 6, 3) := by decide +kernel
theorem dX9_ugly_36 : decode cX9_ugly 36 = .ok (.bipush (-3), 2) := by decide +kernel
theorem dX9_ugly_38 : decode cX9_ugly 38 = .ok (.ireturn, 1) := by decide +kernel
theorem dX9_ugly_39 : decode cX9_ugly 39 = .ok (.aload_n 0, 1) := by decide +kernel
theorem dX9_ugly_40 : decode cX9_ugly 40 = .ok (.getfield 57, 3) := by decide +kernel
theorem dX9_ugly_43 : decode cX9_ugly 43 = .ok (.aload 4, 2) := by decide +kernel
theorem dX9_ugly_45 : decode cX9_ugly 45 = .ok (.getfield 126, 3) := by decide +kernel
theorem dX9_ugly_48 : decode cX9_ugly 48 = .ok (.aload_n 0, 1) := by decide +kernel
theorem dX9_ugly_49 : decode cX9_ugly 49 = .ok (.getfield 35, 3) := by decide +kernel
theorem dX9_ugly_52 : decode cX9_ugly 52 = .ok (.aload_n 0, 1) := by decide +kernel
theorem dX9_ugly_53 : decode cX9_ugly 53 = .ok (.getfield 39, 3) := by decide +kernel
theorem dX9_ugly_56 : decode cX9_ugly 56 = .ok (.aload_n 0, 1) := by decide +kernel
theorem dX9_ugly_57 : decode cX9_ugly 57 = .ok (.getfield 43, 3) := by decide +kernel
theorem dX9_ugly_60 : decode cX9_ugly 60 = .ok (.invokevirtual 149, 3) := by decide +kernel
theorem dX9_ugly_63 : decode cX9_ugly 63 = .ok (.aload_n 0, 1) := by decide +kernel
theorem dX9_ugly_64 : decode cX9_ugly 64 = .ok (.getfield 57, 3) := by decide +kernel
theorem dX9_ugly_67 : decode cX9_ugly 67 = .ok (.iload_n 2, 1) := by decide +kernel
theorem dX9_ugly_68 : decode cX9_ugly 68 = .ok (.iload_n 3, 1) := by decide +kernel
theorem dX9_ugly_69 : decode cX9_ugly 69 = .ok (.invokevirtual 155, 3) := by decide +kernel
theorem dX9_ugly_72 : decode cX9_ugly 72 = .ok (.aload_n 0, 1) := by decide +kernel
theorem dX9_ugly_73 : decode cX9_ugly 73 = .ok (.getfield 57, 3) := by decide +kernel
theorem dX9_ugly_76 : decode cX9_ugly 76 = .ok (.invokevirtual 159, 3) := by decide +kernel
theorem dX9_ugly_79 : decode cX9_ugly 79 = .ok (.ireturn, 1) := by decide +kernel
theorem dX9_best_0 : decode cX9_best 0 = .ok (.aload_n 0, 1) := by decide +kernel
theorem dX9_best_1 : decode cX9_best 1 = .ok (.iload_n 1, 1) := by decide +kernel
theorem dX9_best_2 : decode cX9_best 2 = .ok (.invokevirtual 122, 3) := by decide +kernel
theorem dX9_best_5 : decode cX9_best 5 = .ok (.astore_n 2, 1) := by decide +kernel
theorem dX9_best_6 : decode cX9_best 6 = .ok (.aload_n 2, 1) := by decide +kernel
theorem dX9_best_7 : decode cX9_best 7 = .ok (.ifnonnull 5, 3) := by decide +kernel
theorem dX9_best_10 : decode cX9_best 10 = .ok (.iconst (-1), 1) := by decide +kernel
theorem dX9_best_11 : decode cX9_best 11 = .ok (.ireturn, 1) := by decide +kernel
theorem dX9_best_12 : decode cX9_best 12 = .ok (.aload_n 0, 1) := by decide +kernel
theorem dX9_best_13 : decode cX9_best 13 = .ok (.aload_n 2, 1) := by decide +kernel
theorem dX9_best_14 : decode cX9_best 14 = .ok (.invokevirtual 141, 3) := by decide +kernel
theorem dX9_best_17 : decode cX9_best 17 = .ok (.ifCond .ne 6, 3) := by decide +kernel
theorem dX9_best_20 : decode cX9_best 20 = .ok (.bipush (-3), 2) := by decide +kernel
theorem dX9_best_22 : decode cX9_best 22 = .ok (.ireturn, 1) := by decide +kernel
theorem dX9_best_23 : decode cX9_best 23 = .ok (.aload_n 0, 1) := by decide +kernel
theorem dX9_best_24 : decode cX9_best 24 = .ok (.getfield 57, 3) := by decide +kernel
theorem dX9_best_27 : decode cX9_best 27 = .ok (.aload_n 2, 1) := by decide +kernel
theorem dX9_best_28 : decode cX9_best 28 = .ok (.getfield 126, 3) := by decide +kernel
theorem dX9_best_31 : decode cX9_best 31 = .ok (.aload_n 0, 1) := by decide +kernel
theorem dX9_best_32 : decode cX9_best 32 = .ok (.getfield 35, 3) := by decide +kernel
theorem dX9_best_35 : decode cX9_best 35 = .ok (.aload_n 0, 1) := by decide +kernel
theorem dX9_best_36 : decode cX9_best 36 = .ok (.getfield 39, 3) := by decide +kernel
theorem dX9_best_39 : decode cX9_best 39 = .ok (.aload_n 0, 1) := by decide +kernel
theorem dX9_best_40 : decode cX9_best 40 = .ok (.getfield 43, 3) := by decide +kernel
theorem dX9_best_43 : decode cX9_best 43 = .ok (.invokevirtual 149, 3) := by decide +kernel
theorem dX9_best_46 : decode cX9_best 46 = .ok (.aload_n 0, 1) := by decide +kernel
theorem dX9_best_47 : decode cX9_best 47 = .ok (.getfield 49, 3) := by decide +kernel
theorem dX9_best_50 : decode cX9_best 50 = .ok (.aload_n 2, 1) := by decide +kernel
theorem dX9_best_51 : decode cX9_best 51 = .ok (.getfield 130, 3) := by decide +kernel
theorem dX9_best_54 : decode cX9_best 54 = .ok (.iconst 1, 1) := by decide +kernel
theorem dX9_best_55 : decode cX9_best 55 = .ok (.if_icmp .ne 7, 3) := by decide +kernel
theorem dX9_best_58 : decode cX9_best 58 = .ok (.iconst 1, 1) := by decide +kernel
theorem dX9_best_59 : decode cX9_best 59 = .ok (.goto 4, 3) := by decide +kernel
theorem dX9_best_62 : decode cX9_best 62 = .ok (.iconst 0, 1) := by decide +kernel
theorem dX9_best_63 : decode cX9_best 63 = .ok (.invokevirtual 162, 3) := by decide +kernel
theorem dX9_best_66 : decode cX9_best 66 = .ok (.aload_n 0, 1) := by decide +kernel
theorem dX9_best_67 : decode cX9_best 67 = .ok (.aload_n 0, 1) := by decide +kernel
theorem dX9_best_68 : decode cX9_best 68 = .ok (.getfield 49, 3) := by decide +kernel
theorem dX9_best_71 : decode cX9_best 71 = .ok (.getfield 166, 3) := by decide +kernel
theorem dX9_best_74 : decode cX9_best 74 = .ok (.putfield 58, 3) := by decide +kernel
theorem dX9_best_77 : decode cX9_best 77 = .ok (.aload_n 0, 1) := by decide +kernel
theorem dX9_best_78 : decode cX9_best 78 = .ok (.aload_n 0, 1) := by decide +kernel
theorem dX9_best_79 : decode cX9_best 79 = .ok (.getfield 49, 3) := by decide +kernel
theorem dX9_best_82 : decode cX9_best 82 = .ok (.getfield 169, 3) := by decide +kernel
theorem dX9_best_85 : decode cX9_best 85 = .ok (.putfield 61, 3) := by decide +kernel
theorem dX9_best_88 : decode cX9_best 88 = .ok (.aload_n 0, 1) := by decide +kernel
theorem dX9_best_89 : decode cX9_best 89 = .ok (.getfield 49, 3) := by decide +kernel
theorem dX9_best_92 : decode cX9_best 92 = .ok (.getfield 172, 3) := by decide +kernel
theorem dX9_best_95 : decode cX9_best 95 = .ok (.ireturn, 1) := by decide +kernel
theorem dX9_laid_0 : decode cX9_laid 0 = .ok (.iload_n 1, 1) := by decide +kernel
theorem dX9_laid_1 : decode cX9_laid 1 = .ok (.lookupswitch 37 #[(0, 27), (1, 32)], 27) := by decide +kernel
theorem dX9_laid_28 : decode cX9_laid 28 = .ok (.aload_n 0, 1) := by decide +kernel
theorem dX9_laid_29 : decode cX9_laid 29 = .ok (.getfield 58, 3) := by decide +kernel
theorem dX9_laid_32 : decode cX9_laid 32 = .ok (.ireturn, 1) := by decide +kernel
theorem dX9_laid_33 : decode cX9_laid 33 = .ok (.aload_n 0, 1) := by decide +kernel
theorem dX9_laid_34 : decode cX9_laid 34 = .ok (.getfield 61, 3) := by decide +kernel
theorem dX9_laid_37 : decode cX9_laid 37 = .ok (.ireturn, 1) := by decide +kernel
theorem dX9_laid_38 : decode cX9_laid 38 = .ok (.iconst (-1), 1) := by decide +kernel
theorem dX9_laid_39 : decode cX9_laid 39 = .ok (.ireturn, 1) := by decide +kernel
theorem dX9_sew_0 : decode cX9_sew 0 = .ok (.aload_n 0, 1) := by decide +kernel
theorem dX9_sew_1 : decode cX9_sew 1 = .ok (.iload_n 1, 1) := by decide +kernel
theorem dX9_sew_2 : decode cX9_sew 2 = .ok (.invokevirtual 122, 3) := by decide +kernel
theorem dX9_sew_5 : decode cX9_sew 5 = .ok (.astore 4, 2) := by decide +kernel
theorem dX9_sew_7 : decode cX9_sew 7 = .ok (.aload 4, 2) := by decide +kernel
theorem dX9_sew_9 : decode cX9_sew 9 = .ok (.ifnonnull 5, 3) := by decide +kernel
theorem dX9_sew_12 : decode cX9_sew 12 = .ok (.iconst (-1), 1) := by decide +kernel
theorem dX9_sew_13 : decode cX9_sew 13 = .ok (.ireturn, 1) := by decide +kernel
theorem dX9_sew_14 : decode cX9_sew 14 = .ok (.aload 4, 2) := by decide +kernel
theorem dX9_sew_16 : decode cX9_sew 16 = .ok (.iload_n 2, 1) := by decide +kernel
theorem dX9_sew_17 : decode cX9_sew 17 = .ok (.iload_n 3, 1) := by decide +kernel
theorem dX9_sew_18 : decode cX9_sew 18 = .ok (.invokevirtual 145, 3) := by decide +kernel
theorem dX9_sew_21 : decode cX9_sew 21 = .ok (.ifCond .ne 6, 3) := by decide +kernel
theorem dX9_sew_24 : decode cX9_sew 24 = .ok (.bipush (-2), 2) := by decide +kernel
theorem dX9_sew_26 : decode cX9_sew 26 = .ok (.ireturn, 1) := by decide +kernel
theorem dX9_sew_27 : decode cX9_sew 27 = .ok (.aload_n 0, 1) := by decide +kernel
theorem dX9_sew_28 : decode cX9_sew 28 = .ok (.aload 4, 2) := by decide +kernel
theorem dX9_sew_30 : decode cX9_sew 30 = .ok (.invokevirtual 141, 3) := by decide +kernel
theorem dX9_sew_33 : decode cX9_sew 33 = .ok (.ifCond .ne 6, 3) := by decide +kernel
theorem dX9_sew_36 : decode cX9_sew 36 = .ok (.bipush (-3), 2) := by decide +kernel
theorem dX9_sew_38 : decode cX9_sew 38 = .ok (.ireturn, 1) := by decide +kernel
theorem dX9_sew_39 : decode cX9_sew 39 = .ok (.aload_n 0, 1) := by decide +kernel
theorem dX9_sew_40 : decode cX9_sew 40 = .ok (.getfield 175, 3) := by decide +kernel
theorem dX9_sew_43 : decode cX9_sew 43 = .ok (.bipush 30, 2) := by decide +kernel
theorem dX9_sew_45 : decode cX9_sew 45 = .ok (.if_icmp .lt 6, 3) := by decide +kernel
theorem dX9_sew_48 : decode cX9_sew 48 = .ok (.bipush (-4), 2) := by decide +kernel
theorem dX9_sew_50 : decode cX9_sew 50 = .ok (.ireturn, 1) := by decide +kernel
theorem dX9_sew_51 : decode cX9_sew 51 = .ok (.aload_n 0, 1) := by decide +kernel
theorem dX9_sew_52 : decode cX9_sew 52 = .ok (.getfield 57, 3) := by decide +kernel
theorem dX9_sew_55 : decode cX9_sew 55 = .ok (.aload 4, 2) := by decide +kernel
theorem dX9_sew_57 : decode cX9_sew 57 = .ok (.getfield 126, 3) := by decide +kernel
theorem dX9_sew_60 : decode cX9_sew 60 = .ok (.aload_n 0, 1) := by decide +kernel
theorem dX9_sew_61 : decode cX9_sew 61 = .ok (.getfield 35, 3) := by decide +kernel
theorem dX9_sew_64 : decode cX9_sew 64 = .ok (.aload_n 0, 1) := by decide +kernel
theorem dX9_sew_65 : decode cX9_sew 65 = .ok (.getfield 39, 3) := by decide +kernel
theorem dX9_sew_68 : decode cX9_sew 68 = .ok (.aload_n 0, 1) := by decide +kernel
theorem dX9_sew_69 : decode cX9_sew 69 = .ok (.getfield 43, 3) := by decide +kernel
theorem dX9_sew_72 : decode cX9_sew 72 = .ok (.invokevirtual 149, 3) := by decide +kernel
theorem dX9_sew_75 : decode cX9_sew 75 = .ok (.aload_n 0, 1) := by decide +kernel
theorem dX9_sew_76 : decode cX9_sew 76 = .ok (.getfield 57, 3) := by decide +kernel
theorem dX9_sew_79 : decode cX9_sew 79 = .ok (.iload_n 2, 1) := by decide +kernel
theorem dX9_sew_80 : decode cX9_sew 80 = .ok (.iload_n 3, 1) := by decide +kernel
theorem dX9_sew_81 : decode cX9_sew 81 = .ok (.invokevirtual 155, 3) := by decide +kernel
theorem dX9_sew_84 : decode cX9_sew 84 = .ok (.new 23, 3) := by decide +kernel
theorem dX9_sew_87 : decode cX9_sew 87 = .ok (.dup, 1) := by decide +kernel
theorem dX9_sew_88 : decode cX9_sew 88 = .ok (.aload_n 0, 1) := by decide +kernel
theorem dX9_sew_89 : decode cX9_sew 89 = .ok (.getfield 57, 3) := by decide +kernel
theorem dX9_sew_92 : decode cX9_sew 92 = .ok (.invokevirtual 178, 3) := by decide +kernel
theorem dX9_sew_95 : decode cX9_sew 95 = .ok (.aload 4, 2) := by decide +kernel
theorem dX9_sew_97 : decode cX9_sew 97 = .ok (.getfield 127, 3) := by decide +kernel
theorem dX9_sew_100 : decode cX9_sew 100 = .ok (.aload 4, 2) := by decide +kernel
theorem dX9_sew_102 : decode cX9_sew 102 = .ok (.getfield 130, 3) := by decide +kernel
theorem dX9_sew_105 : decode cX9_sew 105 = .ok (.invokespecial 115, 3) := by decide +kernel
theorem dX9_sew_108 : decode cX9_sew 108 = .ok (.astore 5, 2) := by decide +kernel
theorem dX9_sew_110 : decode cX9_sew 110 = .ok (.aload_n 0, 1) := by decide +kernel
theorem dX9_sew_111 : decode cX9_sew 111 = .ok (.getfield 25, 3) := by decide +kernel
theorem dX9_sew_114 : decode cX9_sew 114 = .ok (.iload_n 1, 1) := by decide +kernel
theorem dX9_sew_115 : decode cX9_sew 115 = .ok (.aconst_null, 1) := by decide +kernel
theorem dX9_sew_116 : decode cX9_sew 116 = .ok (.aastore, 1) := by decide +kernel
theorem dX9_sew_117 : decode cX9_sew 117 = .ok (.aload_n 0, 1) := by decide +kernel
theorem dX9_sew_118 : decode cX9_sew 118 = .ok (.getfield 31, 3) := by decide +kernel
theorem dX9_sew_121 : decode cX9_sew 121 = .ok (.aload_n 0, 1) := by decide +kernel
theorem dX9_sew_122 : decode cX9_sew 122 = .ok (.getfield 175, 3) := by decide +kernel
theorem dX9_sew_125 : decode cX9_sew 125 = .ok (.new 29, 3) := by decide +kernel
theorem dX9_sew_128 : decode cX9_sew 128 = .ok (.dup, 1) := by decide +kernel
theorem dX9_sew_129 : decode cX9_sew 129 = .ok (.aload 5, 2) := by decide +kernel
theorem dX9_sew_131 : decode cX9_sew 131 = .ok (.aload_n 0, 1) := by decide +kernel
theorem dX9_sew_132 : decode cX9_sew 132 = .ok (.getfield 35, 3) := by decide +kernel
theorem dX9_sew_135 : decode cX9_sew 135 = .ok (.invokevirtual 182, 3) := by decide +kernel
theorem dX9_sew_138 : decode cX9_sew 138 = .ok (.checkcast 183, 3) := by decide +kernel
theorem dX9_sew_141 : decode cX9_sew 141 = .ok (.invokespecial 187, 3) := by decide +kernel
theorem dX9_sew_144 : decode cX9_sew 144 = .ok (.aastore, 1) := by decide +kernel
theorem dX9_sew_145 : decode cX9_sew 145 = .ok (.aload_n 0, 1) := by decide +kernel
theorem dX9_sew_146 : decode cX9_sew 146 = .ok (.dup, 1) := by decide +kernel
theorem dX9_sew_147 : decode cX9_sew 147 = .ok (.getfield 175, 3) := by decide +kernel
theorem dX9_sew_150 : decode cX9_sew 150 = .ok (.iconst 1, 1) := by decide +kernel
theorem dX9_sew_151 : decode cX9_sew 151 = .ok (.iadd, 1) := by decide +kernel
theorem dX9_sew_152 : decode cX9_sew 152 = .ok (.putfield 175, 3) := by decide +kernel
theorem dX9_sew_155 : decode cX9_sew 155 = .ok (.aload_n 0, 1) := by decide +kernel
theorem dX9_sew_156 : decode cX9_sew 156 = .ok (.getfield 175, 3) := by decide +kernel
theorem dX9_sew_159 : decode cX9_sew 159 = .ok (.iconst 1, 1) := by decide +kernel
theorem dX9_sew_160 : decode cX9_sew 160 = .ok (.isub, 1) := by decide +kernel
theorem dX9_sew_161 : decode cX9_sew 161 = .ok (.ireturn, 1) := by decide +kernel
theorem dX9_robe_0 : decode cX9_robe 0 = .ok (.aload_n 0, 1) := by decide +kernel
theorem dX9_robe_1 : decode cX9_robe 1 = .ok (.iload_n 1, 1) := by decide +kernel
theorem dX9_robe_2 : decode cX9_robe 2 = .ok (.invokevirtual 190, 3) := by decide +kernel
theorem dX9_robe_5 : decode cX9_robe 5 = .ok (.astore_n 3, 1) := by decide +kernel
theorem dX9_robe_6 : decode cX9_robe 6 = .ok (.aload_n 3, 1) := by decide +kernel
theorem dX9_robe_7 : decode cX9_robe 7 = .ok (.ifnonnull 5, 3) := by decide +kernel
theorem dX9_robe_10 : decode cX9_robe 10 = .ok (.iconst (-1), 1) := by decide +kernel
theorem dX9_robe_11 : decode cX9_robe 11 = .ok (.ireturn, 1) := by decide +kernel
theorem dX9_robe_12 : decode cX9_robe 12 = .ok (.iload_n 2, 1) := by decide +kernel
theorem dX9_robe_13 : decode cX9_robe 13 = .ok (.tableswitch 132 0 9 #[55, 63, 70, 77, 84, 91, 104, 109, 114, 119], 55) := by decide +kernel
theorem dX9_robe_68 : decode cX9_robe 68 = .ok (.aload_n 3, 1) := by decide +kernel
theorem dX9_robe_69 : decode cX9_robe 69 = .ok (.getfield 194, 3) := by decide +kernel
theorem dX9_robe_72 : decode cX9_robe 72 = .ok (.getfield 127, 3) := by decide +kernel
theorem dX9_robe_75 : decode cX9_robe 75 = .ok (.ireturn, 1) := by decide +kernel
theorem dX9_robe_76 : decode cX9_robe 76 = .ok (.aload_n 3, 1) := by decide +kernel
theorem dX9_robe_77 : decode cX9_robe 77 = .ok (.getfield 198, 3) := by decide +kernel
theorem dX9_robe_80 : decode cX9_robe 80 = .ok (.iconst 2, 1) := by decide +kernel
theorem dX9_robe_81 : decode cX9_robe 81 = .ok (.iaload, 1) := by decide +kernel
theorem dX9_robe_82 : decode cX9_robe 82 = .ok (.ireturn, 1) := by decide +kernel
theorem dX9_robe_83 : decode cX9_robe 83 = .ok (.aload_n 3, 1) := by decide +kernel
theorem dX9_robe_84 : decode cX9_robe 84 = .ok (.getfield 198, 3) := by decide +kernel
theorem dX9_robe_87 : decode cX9_robe 87 = .ok (.iconst 0, 1) := by decide +kernel
theorem dX9_robe_88 : decode cX9_robe 88 = .ok (.iaload, 1) := by decide +kernel
theorem dX9_robe_89 : decode cX9_robe 89 = .ok (.ireturn, 1) := by decide +kernel
theorem dX9_robe_90 : decode cX9_robe 90 = .ok (.aload_n 3, 1) := by decide +kernel
theorem dX9_robe_91 : decode cX9_robe 91 = .ok (.getfield 198, 3) := by decide +kernel
theorem dX9_robe_94 : decode cX9_robe 94 = .ok (.iconst 4, 1) := by decide +kernel
theorem dX9_robe_95 : decode cX9_robe 95 = .ok (.iaload, 1) := by decide +kernel
theorem dX9_robe_96 : decode cX9_robe 96 = .ok (.ireturn, 1) := by decide +kernel
theorem dX9_robe_97 : decode cX9_robe 97 = .ok (.aload_n 3, 1) := by decide +kernel
theorem dX9_robe_98 : decode cX9_robe 98 = .ok (.getfield 198, 3) := by decide +kernel
theorem dX9_robe_101 : decode cX9_robe 101 = .ok (.iconst 5, 1) := by decide +kernel
theorem dX9_robe_102 : decode cX9_robe 102 = .ok (.iaload, 1) := by decide +kernel
theorem dX9_robe_103 : decode cX9_robe 103 = .ok (.ireturn, 1) := by decide +kernel
theorem dX9_robe_104 : decode cX9_robe 104 = .ok (.aload_n 3, 1) := by decide +kernel
theorem dX9_robe_105 : decode cX9_robe 105 = .ok (.getfield 201, 3) := by decide +kernel
theorem dX9_robe_108 : decode cX9_robe 108 = .ok (.ifnonnull 7, 3) := by decide +kernel
theorem dX9_robe_111 : decode cX9_robe 111 = .ok (.iconst 0, 1) := by decide +kernel
theorem dX9_robe_112 : decode cX9_robe 112 = .ok (.goto 4, 3) := by decide +kernel
theorem dX9_robe_115 : decode cX9_robe 115 = .ok (.iconst 1, 1) := by decide +kernel
theorem dX9_robe_116 : decode cX9_robe 116 = .ok (.ireturn, 1) := by decide +kernel
theorem dX9_robe_117 : decode cX9_robe 117 = .ok (.aload_n 3, 1) := by decide +kernel
theorem dX9_robe_118 : decode cX9_robe 118 = .ok (.invokevirtual 204, 3) := by decide +kernel
theorem dX9_robe_121 : decode cX9_robe 121 = .ok (.ireturn, 1) := by decide +kernel
theorem dX9_robe_122 : decode cX9_robe 122 = .ok (.aload_n 3, 1) := by decide +kernel
theorem dX9_robe_123 : decode cX9_robe 123 = .ok (.getfield 207, 3) := by decide +kernel
theorem dX9_robe_126 : decode cX9_robe 126 = .ok (.ireturn, 1) := by decide +kernel
theorem dX9_robe_127 : decode cX9_robe 127 = .ok (.aload_n 3, 1) := by decide +kernel
theorem dX9_robe_128 : decode cX9_robe 128 = .ok (.getfield 210, 3) := by decide +kernel
theorem dX9_robe_131 : decode cX9_robe 131 = .ok (.ireturn, 1) := by decide +kernel
theorem dX9_robe_132 : decode cX9_robe 132 = .ok (.aload_n 0, 1) := by decide +kernel
theorem dX9_robe_133 : decode cX9_robe 133 = .ok (.aload_n 3, 1) := by decide +kernel
theorem dX9_robe_134 : decode cX9_robe 134 = .ok (.invokevirtual 213, 3) := by decide +kernel
theorem dX9_robe_137 : decode cX9_robe 137 = .ok (.aload_n 0, 1) := by decide +kernel
theorem dX9_robe_138 : decode cX9_robe 138 = .ok (.getfield 57, 3) := by decide +kernel
theorem dX9_robe_141 : decode cX9_robe 141 = .ok (.invokevirtual 217, 3) := by decide +kernel
theorem dX9_robe_144 : decode cX9_robe 144 = .ok (.ireturn, 1) := by decide +kernel
theorem dX9_robe_145 : decode cX9_robe 145 = .ok (.iconst (-1), 1) := by decide +kernel
theorem dX9_robe_146 : decode cX9_robe 146 = .ok (.ireturn, 1) := by decide +kernel
theorem dX9_piece_0 : decode cX9_piece 0 = .ok (.aload_n 0, 1) := by decide +kernel
theorem dX9_piece_1 : decode cX9_piece 1 = .ok (.iload_n 1, 1) := by decide +kernel
theorem dX9_piece_2 : decode cX9_piece 2 = .ok (.invokevirtual 190, 3) := by decide +kernel
theorem dX9_piece_5 : decode cX9_piece 5 = .ok (.astore 5, 2) := by decide +kernel
theorem dX9_piece_7 : decode cX9_piece 7 = .ok (.aload 5, 2) := by decide +kernel
theorem dX9_piece_9 : decode cX9_piece 9 = .ok (.ifnull 29, 3) := by decide +kernel
theorem dX9_piece_12 : decode cX9_piece 12 = .ok (.iload_n 2, 1) := by decide +kernel
theorem dX9_piece_13 : decode cX9_piece 13 = .ok (.iconst 0, 1) := by decide +kernel
theorem dX9_piece_14 : decode cX9_piece 14 = .ok (.iconst 5, 1) := by decide +kernel
theorem dX9_piece_15 : decode cX9_piece 15 = .ok (.invokestatic 88, 3) := by decide +kernel
theorem dX9_piece_18 : decode cX9_piece 18 = .ok (.ifCond .eq 20, 3) := by decide +kernel
theorem dX9_piece_21 : decode cX9_piece 21 = .ok (.iload_n 3, 1) := by decide +kernel
theorem dX9_piece_22 : decode cX9_piece 22 = .ok (.iconst 0, 1) := by decide +kernel
theorem dX9_piece_23 : decode cX9_piece 23 = .ok (.aload 5, 2) := by decide +kernel
theorem dX9_piece_25 : decode cX9_piece 25 = .ok (.getfield 198, 3) := by decide +kernel
theorem dX9_piece_28 : decode cX9_piece 28 = .ok (.iload_n 2, 1) := by decide +kernel
theorem dX9_piece_29 : decode cX9_piece 29 = .ok (.iaload, 1) := by decide +kernel
theorem dX9_piece_30 : decode cX9_piece 30 = .ok (.iconst 1, 1) := by decide +kernel
theorem dX9_piece_31 : decode cX9_piece 31 = .ok (.isub, 1) := by decide +kernel
theorem dX9_piece_32 : decode cX9_piece 32 = .ok (.invokestatic 88, 3) := by decide +kernel
theorem dX9_piece_35 : decode cX9_piece 35 = .ok (.ifCond .ne 5, 3) := by decide +kernel
theorem dX9_piece_38 : decode cX9_piece 38 = .ok (.iconst (-1), 1) := by decide +kernel
theorem dX9_piece_39 : decode cX9_piece 39 = .ok (.ireturn, 1) := by decide +kernel
theorem dX9_piece_40 : decode cX9_piece 40 = .ok (.aload 5, 2) := by decide +kernel
theorem dX9_piece_42 : decode cX9_piece 42 = .ok (.getfield 194, 3) := by decide +kernel
theorem dX9_piece_45 : decode cX9_piece 45 = .ok (.aload 5, 2) := by decide +kernel
theorem dX9_piece_47 : decode cX9_piece 47 = .ok (.iload_n 2, 1) := by decide +kernel
theorem dX9_piece_48 : decode cX9_piece 48 = .ok (.invokevirtual 220, 3) := by decide +kernel
theorem dX9_piece_51 : decode cX9_piece 51 = .ok (.iload_n 3, 1) := by decide +kernel
theorem dX9_piece_52 : decode cX9_piece 52 = .ok (.iadd, 1) := by decide +kernel
theorem dX9_piece_53 : decode cX9_piece 53 = .ok (.iload 4, 2) := by decide +kernel
theorem dX9_piece_55 : decode cX9_piece 55 = .ok (.invokevirtual 133, 3) := by decide +kernel
theorem dX9_piece_58 : decode cX9_piece 58 = .ok (.ireturn, 1) := by decide +kernel
theorem dX9_miss_0 : decode cX9_miss 0 = .ok (.aload_n 0, 1) := by decide +kernel
theorem dX9_miss_1 : decode cX9_miss 1 = .ok (.iload_n 1, 1) := by decide +kernel
theorem dX9_miss_2 : decode cX9_miss 2 = .ok (.invokevirtual 190, 3) := by decide +kernel
theorem dX9_miss_5 : decode cX9_miss 5 = .ok (.astore_n 3, 1) := by decide +kernel
theorem dX9_miss_6 : decode cX9_miss 6 = .ok (.aload_n 3, 1) := by decide +kernel
theorem dX9_miss_7 : decode cX9_miss 7 = .ok (.ifnull 12, 3) := by decide +kernel
theorem dX9_miss_10 : decode cX9_miss 10 = .ok (.iload_n 2, 1) := by decide +kernel
theorem dX9_miss_11 : decode cX9_miss 11 = .ok (.iconst 0, 1) := by decide +kernel
theorem dX9_miss_12 : decode cX9_miss 12 = .ok (.iconst 4, 1) := by decide +kernel
theorem dX9_miss_13 : decode cX9_miss 13 = .ok (.invokestatic 88, 3) := by decide +kernel
theorem dX9_miss_16 : decode cX9_miss 16 = .ok (.ifCond .ne 5, 3) := by decide +kernel
theorem dX9_miss_19 : decode cX9_miss 19 = .ok (.iconst (-1), 1) := by decide +kernel
theorem dX9_miss_20 : decode cX9_miss 20 = .ok (.ireturn, 1) := by decide +kernel
theorem dX9_miss_21 : decode cX9_miss 21 = .ok (.aload_n 0, 1) := by decide +kernel
theorem dX9_miss_22 : decode cX9_miss 22 = .ok (.aload_n 3, 1) := by decide +kernel
theorem dX9_miss_23 : decode cX9_miss 23 = .ok (.invokevirtual 213, 3) := by decide +kernel
theorem dX9_miss_26 : decode cX9_miss 26 = .ok (.aload_n 0, 1) := by decide +kernel
theorem dX9_miss_27 : decode cX9_miss 27 = .ok (.getfield 57, 3) := by decide +kernel
theorem dX9_miss_30 : decode cX9_miss 30 = .ok (.iload_n 2, 1) := by decide +kernel
theorem dX9_miss_31 : decode cX9_miss 31 = .ok (.invokevirtual 223, 3) := by decide +kernel
theorem dX9_miss_34 : decode cX9_miss 34 = .ok (.ireturn, 1) := by decide +kernel
theorem dX9_wear_0 : decode cX9_wear 0 = .ok (.aload_n 0, 1) := by decide +kernel
theorem dX9_wear_1 : decode cX9_wear 1 = .ok (.iload_n 1, 1) := by decide +kernel
theorem dX9_wear_2 : decode cX9_wear 2 = .ok (.invokevirtual 190, 3) := by decide +kernel
theorem dX9_wear_5 : decode cX9_wear 5 = .ok (.astore_n 2, 1) := by decide +kernel
theorem dX9_wear_6 : decode cX9_wear 6 = .ok (.aload_n 2, 1) := by decide +kernel
theorem dX9_wear_7 : decode cX9_wear 7 = .ok (.ifnonnull 5, 3) := by decide +kernel
theorem dX9_wear_10 : decode cX9_wear 10 = .ok (.iconst (-1), 1) := by decide +kernel
theorem dX9_wear_11 : decode cX9_wear 11 = .ok (.ireturn, 1) := by decide +kernel
theorem dX9_wear_12 : decode cX9_wear 12 = .ok (.aload_n 2, 1) := by decide +kernel
theorem dX9_wear_13 : decode cX9_wear 13 = .ok (.invokevirtual 226, 3) := by decide +kernel
theorem dX9_wear_16 : decode cX9_wear 16 = .ok (.ireturn, 1) := by decide +kernel
theorem dX9_unpick_0 : decode cX9_unpick 0 = .ok (.aload_n 0, 1) := by decide +kernel
theorem dX9_unpick_1 : decode cX9_unpick 1 = .ok (.iload_n 1, 1) := by decide +kernel
theorem dX9_unpick_2 : decode cX9_unpick 2 = .ok (.invokevirtual 190, 3) := by decide +kernel
theorem dX9_unpick_5 : decode cX9_unpick 5 = .ok (.astore 4, 2) := by decide +kernel
theorem dX9_unpick_7 : decode cX9_unpick 7 = .ok (.aload 4, 2) := by decide +kernel
theorem dX9_unpick_9 : decode cX9_unpick 9 = .ok (.ifnonnull 5, 3) := by decide +kernel
theorem dX9_unpick_12 : decode cX9_unpick 12 = .ok (.iconst (-1), 1) := by decide +kernel
theorem dX9_unpick_13 : decode cX9_unpick 13 = .ok (.ireturn, 1) := by decide +kernel
theorem dX9_unpick_14 : decode cX9_unpick 14 = .ok (.aload 4, 2) := by decide +kernel
theorem dX9_unpick_16 : decode cX9_unpick 16 = .ok (.getfield 194, 3) := by decide +kernel
theorem dX9_unpick_19 : decode cX9_unpick 19 = .ok (.iload_n 2, 1) := by decide +kernel
theorem dX9_unpick_20 : decode cX9_unpick 20 = .ok (.iload_n 3, 1) := by decide +kernel
theorem dX9_unpick_21 : decode cX9_unpick 21 = .ok (.invokevirtual 145, 3) := by decide +kernel
theorem dX9_unpick_24 : decode cX9_unpick 24 = .ok (.ifCond .ne 6, 3) := by decide +kernel
theorem dX9_unpick_27 : decode cX9_unpick 27 = .ok (.bipush (-2), 2) := by decide +kernel
theorem dX9_unpick_29 : decode cX9_unpick 29 = .ok (.ireturn, 1) := by decide +kernel
theorem dX9_unpick_30 : decode cX9_unpick 30 = .ok (.aload 4, 2) := by decide +kernel
theorem dX9_unpick_32 : decode cX9_unpick 32 = .ok (.getfield 210, 3) := by decide +kernel
theorem dX9_unpick_35 : decode cX9_unpick 35 = .ok (.iconst (-1), 1) := by decide +kernel
theorem dX9_unpick_36 : decode cX9_unpick 36 = .ok (.if_icmp .ne 11, 3) := by decide +kernel
theorem dX9_unpick_39 : decode cX9_unpick 39 = .ok (.aload 4, 2) := by decide +kernel
theorem dX9_unpick_41 : decode cX9_unpick 41 = .ok (.getfield 201, 3) := by decide +kernel
theorem dX9_unpick_44 : decode cX9_unpick 44 = .ok (.ifnull 6, 3) := by decide +kernel
theorem dX9_unpick_47 : decode cX9_unpick 47 = .ok (.bipush (-3), 2) := by decide +kernel
theorem dX9_unpick_49 : decode cX9_unpick 49 = .ok (.ireturn, 1) := by decide +kernel
theorem dX9_unpick_50 : decode cX9_unpick 50 = .ok (.aload_n 0, 1) := by decide +kernel
theorem dX9_unpick_51 : decode cX9_unpick 51 = .ok (.getfield 99, 3) := by decide +kernel
theorem dX9_unpick_54 : decode cX9_unpick 54 = .ok (.bipush 40, 2) := by decide +kernel
theorem dX9_unpick_56 : decode cX9_unpick 56 = .ok (.if_icmp .lt 6, 3) := by decide +kernel
theorem dX9_unpick_59 : decode cX9_unpick 59 = .ok (.bipush (-4), 2) := by decide +kernel
theorem dX9_unpick_61 : decode cX9_unpick 61 = .ok (.ireturn, 1) := by decide +kernel
theorem dX9_unpick_62 : decode cX9_unpick 62 = .ok (.aload_n 0, 1) := by decide +kernel
theorem dX9_unpick_63 : decode cX9_unpick 63 = .ok (.getfield 57, 3) := by decide +kernel
theorem dX9_unpick_66 : decode cX9_unpick 66 = .ok (.aload 4, 2) := by decide +kernel
theorem dX9_unpick_68 : decode cX9_unpick 68 = .ok (.getfield 194, 3) := by decide +kernel
theorem dX9_unpick_71 : decode cX9_unpick 71 = .ok (.getfield 126, 3) := by decide +kernel
theorem dX9_unpick_74 : decode cX9_unpick 74 = .ok (.aload 4, 2) := by decide +kernel
theorem dX9_unpick_76 : decode cX9_unpick 76 = .ok (.getfield 198, 3) := by decide +kernel
