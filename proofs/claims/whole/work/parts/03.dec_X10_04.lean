theorem dX10_lend_42 : decode cX10_lend 42 = .ok (.iload_n 1, 1) := by decide +kernel
theorem dX10_lend_43 : decode cX10_lend 43 = .ok (.iload_n 2, 1) := by decide +kernel
theorem dX10_lend_44 : decode cX10_lend 44 = .ok (.iastore, 1) := by decide +kernel
theorem dX10_lend_45 : decode cX10_lend 45 = .ok (.iconst 0, 1) := by decide +kernel
theorem dX10_lend_46 : decode cX10_lend 46 = .ok (.ireturn, 1) := by decide +kernel
theorem dX10_back_0 : decode cX10_back 0 = .ok (.aload_n 0, 1) := by decide +kernel
theorem dX10_back_1 : decode cX10_back 1 = .ok (.iload_n 1, 1) := by decide +kernel
theorem dX10_back_2 : decode cX10_back 2 = .ok (.invokevirtual 219, 3) := by decide +kernel
theorem dX10_back_5 : decode cX10_back 5 = .ok (.ifCond .ne 5, 3) := by decide +kernel
theorem dX10_back_8 : decode cX10_back 8 = .ok (.iconst (-1), 1) := by decide +kernel
theorem dX10_back_9 : decode cX10_back 9 = .ok (.ireturn, 1) := by decide +kernel
theorem dX10_back_10 : decode cX10_back 10 = .ok (.iload_n 2, 1) := by decide +kernel
theorem dX10_back_11 : decode cX10_back 11 = .ok (.iconst 0, 1) := by decide +kernel
theorem dX10_back_12 : decode cX10_back 12 = .ok (.bipush 9, 2) := by decide +kernel
theorem dX10_back_14 : decode cX10_back 14 = .ok (.invokestatic 141, 3) := by decide +kernel
theorem dX10_back_17 : decode cX10_back 17 = .ok (.ifCond .ne 6, 3) := by decide +kernel
theorem dX10_back_20 : decode cX10_back 20 = .ok (.bipush (-2), 2) := by decide +kernel
theorem dX10_back_22 : decode cX10_back 22 = .ok (.ireturn, 1) := by decide +kernel
theorem dX10_back_23 : decode cX10_back 23 = .ok (.aload_n 0, 1) := by decide +kernel
theorem dX10_back_24 : decode cX10_back 24 = .ok (.getfield 65, 3) := by decide +kernel
theorem dX10_back_27 : decode cX10_back 27 = .ok (.iload_n 1, 1) := by decide +kernel
theorem dX10_back_28 : decode cX10_back 28 = .ok (.iaload, 1) := by decide +kernel
theorem dX10_back_29 : decode cX10_back 29 = .ok (.iconst (-1), 1) := by decide +kernel
theorem dX10_back_30 : decode cX10_back 30 = .ok (.if_icmp .ne 6, 3) := by decide +kernel
theorem dX10_back_33 : decode cX10_back 33 = .ok (.bipush (-3), 2) := by decide +kernel
theorem dX10_back_35 : decode cX10_back 35 = .ok (.ireturn, 1) := by decide +kernel
theorem dX10_back_36 : decode cX10_back 36 = .ok (.aload_n 0, 1) := by decide +kernel
theorem dX10_back_37 : decode cX10_back 37 = .ok (.getfield 65, 3) := by decide +kernel
theorem dX10_back_40 : decode cX10_back 40 = .ok (.iload_n 1, 1) := by decide +kernel
theorem dX10_back_41 : decode cX10_back 41 = .ok (.iaload, 1) := by decide +kernel
theorem dX10_back_42 : decode cX10_back 42 = .ok (.istore_n 3, 1) := by decide +kernel
theorem dX10_back_43 : decode cX10_back 43 = .ok (.aload_n 0, 1) := by decide +kernel
theorem dX10_back_44 : decode cX10_back 44 = .ok (.getfield 65, 3) := by decide +kernel
theorem dX10_back_47 : decode cX10_back 47 = .ok (.iload_n 1, 1) := by decide +kernel
theorem dX10_back_48 : decode cX10_back 48 = .ok (.iconst (-1), 1) := by decide +kernel
theorem dX10_back_49 : decode cX10_back 49 = .ok (.iastore, 1) := by decide +kernel
theorem dX10_back_50 : decode cX10_back 50 = .ok (.iconst 0, 1) := by decide +kernel
theorem dX10_back_51 : decode cX10_back 51 = .ok (.istore 4, 2) := by decide +kernel
theorem dX10_back_53 : decode cX10_back 53 = .ok (.iload 4, 2) := by decide +kernel
theorem dX10_back_55 : decode cX10_back 55 = .ok (.iload_n 2, 1) := by decide +kernel
theorem dX10_back_56 : decode cX10_back 56 = .ok (.if_icmp .ge 16, 3) := by decide +kernel
theorem dX10_back_59 : decode cX10_back 59 = .ok (.aload_n 0, 1) := by decide +kernel
theorem dX10_back_60 : decode cX10_back 60 = .ok (.iload_n 1, 1) := by decide +kernel
theorem dX10_back_61 : decode cX10_back 61 = .ok (.invokevirtual 229, 3) := by decide +kernel
theorem dX10_back_64 : decode cX10_back 64 = .ok (.istore 5, 2) := by decide +kernel
theorem dX10_back_66 : decode cX10_back 66 = .ok (.iinc 4 1, 3) := by decide +kernel
theorem dX10_back_69 : decode cX10_back 69 = .ok (.goto (-16), 3) := by decide +kernel
theorem dX10_back_72 : decode cX10_back 72 = .ok (.iload_n 3, 1) := by decide +kernel
theorem dX10_back_73 : decode cX10_back 73 = .ok (.ireturn, 1) := by decide +kernel
theorem dX10_goesTo_0 : decode cX10_goesTo 0 = .ok (.iconst 0, 1) := by decide +kernel
theorem dX10_goesTo_1 : decode cX10_goesTo 1 = .ok (.istore_n 2, 1) := by decide +kernel
theorem dX10_goesTo_2 : decode cX10_goesTo 2 = .ok (.iload_n 2, 1) := by decide +kernel
theorem dX10_goesTo_3 : decode cX10_goesTo 3 = .ok (.aload_n 0, 1) := by decide +kernel
theorem dX10_goesTo_4 : decode cX10_goesTo 4 = .ok (.getfield 145, 3) := by decide +kernel
theorem dX10_goesTo_7 : decode cX10_goesTo 7 = .ok (.if_icmp .ge 16, 3) := by decide +kernel
theorem dX10_goesTo_10 : decode cX10_goesTo 10 = .ok (.aload_n 0, 1) := by decide +kernel
theorem dX10_goesTo_11 : decode cX10_goesTo 11 = .ok (.getfield 129, 3) := by decide +kernel
theorem dX10_goesTo_14 : decode cX10_goesTo 14 = .ok (.iload_n 2, 1) := by decide +kernel
theorem dX10_goesTo_15 : decode cX10_goesTo 15 = .ok (.iconst 0, 1) := by decide +kernel
theorem dX10_goesTo_16 : decode cX10_goesTo 16 = .ok (.bastore, 1) := by decide +kernel
theorem dX10_goesTo_17 : decode cX10_goesTo 17 = .ok (.iinc 2 1, 3) := by decide +kernel
theorem dX10_goesTo_20 : decode cX10_goesTo 20 = .ok (.goto (-18), 3) := by decide +kernel
theorem dX10_goesTo_23 : decode cX10_goesTo 23 = .ok (.iconst 0, 1) := by decide +kernel
theorem dX10_goesTo_24 : decode cX10_goesTo 24 = .ok (.istore_n 2, 1) := by decide +kernel
theorem dX10_goesTo_25 : decode cX10_goesTo 25 = .ok (.iconst 1, 1) := by decide +kernel
theorem dX10_goesTo_26 : decode cX10_goesTo 26 = .ok (.istore_n 3, 1) := by decide +kernel
theorem dX10_goesTo_27 : decode cX10_goesTo 27 = .ok (.aload_n 0, 1) := by decide +kernel
theorem dX10_goesTo_28 : decode cX10_goesTo 28 = .ok (.getfield 126, 3) := by decide +kernel
theorem dX10_goesTo_31 : decode cX10_goesTo 31 = .ok (.iconst 0, 1) := by decide +kernel
theorem dX10_goesTo_32 : decode cX10_goesTo 32 = .ok (.iload_n 1, 1) := by decide +kernel
theorem dX10_goesTo_33 : decode cX10_goesTo 33 = .ok (.iastore, 1) := by decide +kernel
theorem dX10_goesTo_34 : decode cX10_goesTo 34 = .ok (.iload_n 2, 1) := by decide +kernel
theorem dX10_goesTo_35 : decode cX10_goesTo 35 = .ok (.iload_n 3, 1) := by decide +kernel
theorem dX10_goesTo_36 : decode cX10_goesTo 36 = .ok (.if_icmp .ge 114, 3) := by decide +kernel
theorem dX10_goesTo_39 : decode cX10_goesTo 39 = .ok (.aload_n 0, 1) := by decide +kernel
theorem dX10_goesTo_40 : decode cX10_goesTo 40 = .ok (.getfield 126, 3) := by decide +kernel
theorem dX10_goesTo_43 : decode cX10_goesTo 43 = .ok (.iload_n 2, 1) := by decide +kernel
theorem dX10_goesTo_44 : decode cX10_goesTo 44 = .ok (.iaload, 1) := by decide +kernel
theorem dX10_goesTo_45 : decode cX10_goesTo 45 = .ok (.istore 4, 2) := by decide +kernel
theorem dX10_goesTo_47 : decode cX10_goesTo 47 = .ok (.iinc 2 1, 3) := by decide +kernel
theorem dX10_goesTo_50 : decode cX10_goesTo 50 = .ok (.iconst 0, 1) := by decide +kernel
theorem dX10_goesTo_51 : decode cX10_goesTo 51 = .ok (.istore 5, 2) := by decide +kernel
theorem dX10_goesTo_53 : decode cX10_goesTo 53 = .ok (.iload 5, 2) := by decide +kernel
theorem dX10_goesTo_55 : decode cX10_goesTo 55 = .ok (.aload_n 0, 1) := by decide +kernel
theorem dX10_goesTo_56 : decode cX10_goesTo 56 = .ok (.getfield 145, 3) := by decide +kernel
theorem dX10_goesTo_59 : decode cX10_goesTo 59 = .ok (.if_icmp .ge 88, 3) := by decide +kernel
theorem dX10_goesTo_62 : decode cX10_goesTo 62 = .ok (.aload_n 0, 1) := by decide +kernel
theorem dX10_goesTo_63 : decode cX10_goesTo 63 = .ok (.getfield 114, 3) := by decide +kernel
theorem dX10_goesTo_66 : decode cX10_goesTo 66 = .ok (.iload 4, 2) := by decide +kernel
theorem dX10_goesTo_68 : decode cX10_goesTo 68 = .ok (.iaload, 1) := by decide +kernel
theorem dX10_goesTo_69 : decode cX10_goesTo 69 = .ok (.iload 5, 2) := by decide +kernel
theorem dX10_goesTo_71 : decode cX10_goesTo 71 = .ok (.ishr, 1) := by decide +kernel
theorem dX10_goesTo_72 : decode cX10_goesTo 72 = .ok (.iconst 1, 1) := by decide +kernel
theorem dX10_goesTo_73 : decode cX10_goesTo 73 = .ok (.iand, 1) := by decide +kernel
theorem dX10_goesTo_74 : decode cX10_goesTo 74 = .ok (.iconst 1, 1) := by decide +kernel
theorem dX10_goesTo_75 : decode cX10_goesTo 75 = .ok (.if_icmp .ne 66, 3) := by decide +kernel
theorem dX10_goesTo_78 : decode cX10_goesTo 78 = .ok (.aload_n 0, 1) := by decide +kernel
theorem dX10_goesTo_79 : decode cX10_goesTo 79 = .ok (.getfield 129, 3) := by decide +kernel
theorem dX10_goesTo_82 : decode cX10_goesTo 82 = .ok (.iload 5, 2) := by decide +kernel
theorem dX10_goesTo_84 : decode cX10_goesTo 84 = .ok (.baload, 1) := by decide +kernel
theorem dX10_goesTo_85 : decode cX10_goesTo 85 = .ok (.ifCond .ne 56, 3) := by decide +kernel
theorem dX10_goesTo_88 : decode cX10_goesTo 88 = .ok (.aload_n 0, 1) := by decide +kernel
theorem dX10_goesTo_89 : decode cX10_goesTo 89 = .ok (.getfield 129, 3) := by decide +kernel
theorem dX10_goesTo_92 : decode cX10_goesTo 92 = .ok (.iload 5, 2) := by decide +kernel
theorem dX10_goesTo_94 : decode cX10_goesTo 94 = .ok (.iconst 1, 1) := by decide +kernel
theorem dX10_goesTo_95 : decode cX10_goesTo 95 = .ok (.bastore, 1) := by decide +kernel
theorem dX10_goesTo_96 : decode cX10_goesTo 96 = .ok (.aload_n 0, 1) := by decide +kernel
theorem dX10_goesTo_97 : decode cX10_goesTo 97 = .ok (.getfield 123, 3) := by decide +kernel
theorem dX10_goesTo_100 : decode cX10_goesTo 100 = .ok (.iload 5, 2) := by decide +kernel
theorem dX10_goesTo_102 : decode cX10_goesTo 102 = .ok (.iload 4, 2) := by decide +kernel
theorem dX10_goesTo_104 : decode cX10_goesTo 104 = .ok (.iastore, 1) := by decide +kernel
theorem dX10_goesTo_105 : decode cX10_goesTo 105 = .ok (.aload_n 0, 1) := by decide +kernel
theorem dX10_goesTo_106 : decode cX10_goesTo 106 = .ok (.getfield 117, 3) := by decide +kernel
theorem dX10_goesTo_109 : decode cX10_goesTo 109 = .ok (.iload 5, 2) := by decide +kernel
theorem dX10_goesTo_111 : decode cX10_goesTo 111 = .ok (.iaload, 1) := by decide +kernel
theorem dX10_goesTo_112 : decode cX10_goesTo 112 = .ok (.iconst (-1), 1) := by decide +kernel
theorem dX10_goesTo_113 : decode cX10_goesTo 113 = .ok (.if_icmp .ne 12, 3) := by decide +kernel
theorem dX10_goesTo_116 : decode cX10_goesTo 116 = .ok (.aload_n 0, 1) := by decide +kernel
theorem dX10_goesTo_117 : decode cX10_goesTo 117 = .ok (.iload_n 1, 1) := by decide +kernel
theorem dX10_goesTo_118 : decode cX10_goesTo 118 = .ok (.iload 5, 2) := by decide +kernel
theorem dX10_goesTo_120 : decode cX10_goesTo 120 = .ok (.invokevirtual 267, 3) := by decide +kernel
theorem dX10_goesTo_123 : decode cX10_goesTo 123 = .ok (.iconst 1, 1) := by decide +kernel
theorem dX10_goesTo_124 : decode cX10_goesTo 124 = .ok (.ireturn, 1) := by decide +kernel
theorem dX10_goesTo_125 : decode cX10_goesTo 125 = .ok (.aload_n 0, 1) := by decide +kernel
theorem dX10_goesTo_126 : decode cX10_goesTo 126 = .ok (.getfield 126, 3) := by decide +kernel
theorem dX10_goesTo_129 : decode cX10_goesTo 129 = .ok (.iload_n 3, 1) := by decide +kernel
theorem dX10_goesTo_130 : decode cX10_goesTo 130 = .ok (.aload_n 0, 1) := by decide +kernel
theorem dX10_goesTo_131 : decode cX10_goesTo 131 = .ok (.getfield 117, 3) := by decide +kernel
theorem dX10_goesTo_134 : decode cX10_goesTo 134 = .ok (.iload 5, 2) := by decide +kernel
theorem dX10_goesTo_136 : decode cX10_goesTo 136 = .ok (.iaload, 1) := by decide +kernel
theorem dX10_goesTo_137 : decode cX10_goesTo 137 = .ok (.iastore, 1) := by decide +kernel
theorem dX10_goesTo_138 : decode cX10_goesTo 138 = .ok (.iinc 3 1, 3) := by decide +kernel
theorem dX10_goesTo_141 : decode cX10_goesTo 141 = .ok (.iinc 5 1, 3) := by decide +kernel
theorem dX10_goesTo_144 : decode cX10_goesTo 144 = .ok (.goto (-91), 3) := by decide +kernel
theorem dX10_goesTo_147 : decode cX10_goesTo 147 = .ok (.goto (-113), 3) := by decide +kernel
theorem dX10_goesTo_150 : decode cX10_goesTo 150 = .ok (.iconst 0, 1) := by decide +kernel
theorem dX10_goesTo_151 : decode cX10_goesTo 151 = .ok (.ireturn, 1) := by decide +kernel
theorem dX10_gives_0 : decode cX10_gives 0 = .ok (.iload_n 2, 1) := by decide +kernel
theorem dX10_gives_1 : decode cX10_gives 1 = .ok (.istore_n 3, 1) := by decide +kernel
theorem dX10_gives_2 : decode cX10_gives 2 = .ok (.iconst 1, 1) := by decide +kernel
theorem dX10_gives_3 : decode cX10_gives 3 = .ok (.istore 4, 2) := by decide +kernel
theorem dX10_gives_5 : decode cX10_gives 5 = .ok (.iload 4, 2) := by decide +kernel
theorem dX10_gives_7 : decode cX10_gives 7 = .ok (.ifCond .eq 55, 3) := by decide +kernel
theorem dX10_gives_10 : decode cX10_gives 10 = .ok (.aload_n 0, 1) := by decide +kernel
theorem dX10_gives_11 : decode cX10_gives 11 = .ok (.getfield 123, 3) := by decide +kernel
theorem dX10_gives_14 : decode cX10_gives 14 = .ok (.iload_n 3, 1) := by decide +kernel
theorem dX10_gives_15 : decode cX10_gives 15 = .ok (.iaload, 1) := by decide +kernel
theorem dX10_gives_16 : decode cX10_gives 16 = .ok (.istore 5, 2) := by decide +kernel
theorem dX10_gives_18 : decode cX10_gives 18 = .ok (.aload_n 0, 1) := by decide +kernel
theorem dX10_gives_19 : decode cX10_gives 19 = .ok (.getfield 132, 3) := by decide +kernel
theorem dX10_gives_22 : decode cX10_gives 22 = .ok (.iload 5, 2) := by decide +kernel
theorem dX10_gives_24 : decode cX10_gives 24 = .ok (.iaload, 1) := by decide +kernel
theorem dX10_gives_25 : decode cX10_gives 25 = .ok (.istore 6, 2) := by decide +kernel
theorem dX10_gives_27 : decode cX10_gives 27 = .ok (.aload_n 0, 1) := by decide +kernel
theorem dX10_gives_28 : decode cX10_gives 28 = .ok (.getfield 117, 3) := by decide +kernel
theorem dX10_gives_31 : decode cX10_gives 31 = .ok (.iload_n 3, 1) := by decide +kernel
theorem dX10_gives_32 : decode cX10_gives 32 = .ok (.iload 5, 2) := by decide +kernel
theorem dX10_gives_34 : decode cX10_gives 34 = .ok (.iastore, 1) := by decide +kernel
theorem dX10_gives_35 : decode cX10_gives 35 = .ok (.aload_n 0, 1) := by decide +kernel
theorem dX10_gives_36 : decode cX10_gives 36 = .ok (.getfield 132, 3) := by decide +kernel
theorem dX10_gives_39 : decode cX10_gives 39 = .ok (.iload 5, 2) := by decide +kernel
theorem dX10_gives_41 : decode cX10_gives 41 = .ok (.iload_n 3, 1) := by decide +kernel
theorem dX10_gives_42 : decode cX10_gives 42 = .ok (.iastore, 1) := by decide +kernel
theorem dX10_gives_43 : decode cX10_gives 43 = .ok (.iload 5, 2) := by decide +kernel
theorem dX10_gives_45 : decode cX10_gives 45 = .ok (.iload_n 1, 1) := by decide +kernel
theorem dX10_gives_46 : decode cX10_gives 46 = .ok (.if_icmp .eq 7, 3) := by decide +kernel
theorem dX10_gives_49 : decode cX10_gives 49 = .ok (.iconst 1, 1) := by decide +kernel
theorem dX10_gives_50 : decode cX10_gives 50 = .ok (.goto 4, 3) := by decide +kernel
theorem dX10_gives_53 : decode cX10_gives 53 = .ok (.iconst 0, 1) := by decide +kernel
theorem dX10_gives_54 : decode cX10_gives 54 = .ok (.istore 4, 2) := by decide +kernel
theorem dX10_gives_56 : decode cX10_gives 56 = .ok (.iload 6, 2) := by decide +kernel
theorem dX10_gives_58 : decode cX10_gives 58 = .ok (.istore_n 3, 1) := by decide +kernel
theorem dX10_gives_59 : decode cX10_gives 59 = .ok (.goto (-54), 3) := by decide +kernel
theorem dX10_gives_62 : decode cX10_gives 62 = .ok (.return_, 1) := by decide +kernel
theorem dX10_most_0 : decode cX10_most 0 = .ok (.iconst 0, 1) := by decide +kernel
theorem dX10_most_1 : decode cX10_most 1 = .ok (.istore_n 1, 1) := by decide +kernel
theorem dX10_most_2 : decode cX10_most 2 = .ok (.iload_n 1, 1) := by decide +kernel
theorem dX10_most_3 : decode cX10_most 3 = .ok (.bipush 30, 2) := by decide +kernel
theorem dX10_most_5 : decode cX10_most 5 = .ok (.if_icmp .ge 16, 3) := by decide +kernel
theorem dX10_most_8 : decode cX10_most 8 = .ok (.aload_n 0, 1) := by decide +kernel
theorem dX10_most_9 : decode cX10_most 9 = .ok (.getfield 117, 3) := by decide +kernel
theorem dX10_most_12 : decode cX10_most 12 = .ok (.iload_n 1, 1) := by decide +kernel
theorem dX10_most_13 : decode cX10_most 13 = .ok (.iconst (-1), 1) := by decide +kernel
theorem dX10_most_14 : decode cX10_most 14 = .ok (.iastore, 1) := by decide +kernel
theorem dX10_most_15 : decode cX10_most 15 = .ok (.iinc 1 1, 3) := by decide +kernel
theorem dX10_most_18 : decode cX10_most 18 = .ok (.goto (-16), 3) := by decide +kernel
theorem dX10_most_21 : decode cX10_most 21 = .ok (.iconst 0, 1) := by decide +kernel
theorem dX10_most_22 : decode cX10_most 22 = .ok (.istore_n 1, 1) := by decide +kernel
theorem dX10_most_23 : decode cX10_most 23 = .ok (.iconst 0, 1) := by decide +kernel
theorem dX10_most_24 : decode cX10_most 24 = .ok (.istore_n 2, 1) := by decide +kernel
theorem dX10_most_25 : decode cX10_most 25 = .ok (.iload_n 2, 1) := by decide +kernel
theorem dX10_most_26 : decode cX10_most 26 = .ok (.bipush 10, 2) := by decide +kernel
theorem dX10_most_28 : decode cX10_most 28 = .ok (.if_icmp .ge 16, 3) := by decide +kernel
theorem dX10_most_31 : decode cX10_most 31 = .ok (.aload_n 0, 1) := by decide +kernel
theorem dX10_most_32 : decode cX10_most 32 = .ok (.getfield 132, 3) := by decide +kernel
theorem dX10_most_35 : decode cX10_most 35 = .ok (.iload_n 2, 1) := by decide +kernel
theorem dX10_most_36 : decode cX10_most 36 = .ok (.iconst (-1), 1) := by decide +kernel
theorem dX10_most_37 : decode cX10_most 37 = .ok (.iastore, 1) := by decide +kernel
theorem dX10_most_38 : decode cX10_most 38 = .ok (.iinc 2 1, 3) := by decide +kernel
theorem dX10_most_41 : decode cX10_most 41 = .ok (.goto (-16), 3) := by decide +kernel
theorem dX10_most_44 : decode cX10_most 44 = .ok (.iconst 0, 1) := by decide +kernel
theorem dX10_most_45 : decode cX10_most 45 = .ok (.istore_n 2, 1) := by decide +kernel
theorem dX10_most_46 : decode cX10_most 46 = .ok (.iload_n 2, 1) := by decide +kernel
theorem dX10_most_47 : decode cX10_most 47 = .ok (.bipush 10, 2) := by decide +kernel
theorem dX10_most_49 : decode cX10_most 49 = .ok (.if_icmp .ge 34, 3) := by decide +kernel
theorem dX10_most_52 : decode cX10_most 52 = .ok (.iload_n 1, 1) := by decide +kernel
theorem dX10_most_53 : decode cX10_most 53 = .ok (.aload_n 0, 1) := by decide +kernel
theorem dX10_most_54 : decode cX10_most 54 = .ok (.getfield 114, 3) := by decide +kernel
theorem dX10_most_57 : decode cX10_most 57 = .ok (.iload_n 2, 1) := by decide +kernel
theorem dX10_most_58 : decode cX10_most 58 = .ok (.iaload, 1) := by decide +kernel
theorem dX10_most_59 : decode cX10_most 59 = .ok (.ifCond .eq 15, 3) := by decide +kernel
theorem dX10_most_62 : decode cX10_most 62 = .ok (.aload_n 0, 1) := by decide +kernel
theorem dX10_most_63 : decode cX10_most 63 = .ok (.iload_n 2, 1) := by decide +kernel
theorem dX10_most_64 : decode cX10_most 64 = .ok (.invokevirtual 270, 3) := by decide +kernel
theorem dX10_most_67 : decode cX10_most 67 = .ok (.ifCond .eq 7, 3) := by decide +kernel
theorem dX10_most_70 : decode cX10_most 70 = .ok (.iconst 1, 1) := by decide +kernel
theorem dX10_most_71 : decode cX10_most 71 = .ok (.goto 4, 3) := by decide +kernel
theorem dX10_most_74 : decode cX10_most 74 = .ok (.iconst 0, 1) := by decide +kernel
theorem dX10_most_75 : decode cX10_most 75 = .ok (.iadd, 1) := by decide +kernel
theorem dX10_most_76 : decode cX10_most 76 = .ok (.istore_n 1, 1) := by decide +kernel
theorem dX10_most_77 : decode cX10_most 77 = .ok (.iinc 2 1, 3) := by decide +kernel
theorem dX10_most_80 : decode cX10_most 80 = .ok (.goto (-34), 3) := by decide +kernel
theorem dX10_most_83 : decode cX10_most 83 = .ok (.iload_n 1, 1) := by decide +kernel
theorem dX10_most_84 : decode cX10_most 84 = .ok (.ireturn, 1) := by decide +kernel
theorem dX10_leastFor_0 : decode cX10_leastFor 0 = .ok (.aload_n 0, 1) := by decide +kernel
theorem dX10_leastFor_1 : decode cX10_leastFor 1 = .ok (.getfield 114, 3) := by decide +kernel
theorem dX10_leastFor_4 : decode cX10_leastFor 4 = .ok (.iload_n 1, 1) := by decide +kernel
theorem dX10_leastFor_5 : decode cX10_leastFor 5 = .ok (.iaload, 1) := by decide +kernel
theorem dX10_leastFor_6 : decode cX10_leastFor 6 = .ok (.istore_n 3, 1) := by decide +kernel
theorem dX10_leastFor_7 : decode cX10_leastFor 7 = .ok (.iconst 0, 1) := by decide +kernel
theorem dX10_leastFor_8 : decode cX10_leastFor 8 = .ok (.istore 4, 2) := by decide +kernel
theorem dX10_leastFor_10 : decode cX10_leastFor 10 = .ok (.iload 4, 2) := by decide +kernel
theorem dX10_leastFor_12 : decode cX10_leastFor 12 = .ok (.aload_n 0, 1) := by decide +kernel
theorem dX10_leastFor_13 : decode cX10_leastFor 13 = .ok (.getfield 145, 3) := by decide +kernel
theorem dX10_leastFor_16 : decode cX10_leastFor 16 = .ok (.if_icmp .ge 123, 3) := by decide +kernel
theorem dX10_leastFor_19 : decode cX10_leastFor 19 = .ok (.iload_n 3, 1) := by decide +kernel
theorem dX10_leastFor_20 : decode cX10_leastFor 20 = .ok (.iload 4, 2) := by decide +kernel
theorem dX10_leastFor_22 : decode cX10_leastFor 22 = .ok (.ishr, 1) := by decide +kernel
theorem dX10_leastFor_23 : decode cX10_leastFor 23 = .ok (.iconst 1, 1) := by decide +kernel
theorem dX10_leastFor_24 : decode cX10_leastFor 24 = .ok (.iand, 1) := by decide +kernel
theorem dX10_leastFor_25 : decode cX10_leastFor 25 = .ok (.iconst 1, 1) := by decide +kernel
theorem dX10_leastFor_26 : decode cX10_leastFor 26 = .ok (.if_icmp .ne 107, 3) := by decide +kernel
theorem dX10_leastFor_29 : decode cX10_leastFor 29 = .ok (.iconst 0, 1) := by decide +kernel
theorem dX10_leastFor_30 : decode cX10_leastFor 30 = .ok (.istore 5, 2) := by decide +kernel
theorem dX10_leastFor_32 : decode cX10_leastFor 32 = .ok (.iload 5, 2) := by decide +kernel
theorem dX10_leastFor_34 : decode cX10_leastFor 34 = .ok (.bipush 10, 2) := by decide +kernel
theorem dX10_leastFor_36 : decode cX10_leastFor 36 = .ok (.if_icmp .ge 54, 3) := by decide +kernel
theorem dX10_leastFor_39 : decode cX10_leastFor 39 = .ok (.aload_n 0, 1) := by decide +kernel
theorem dX10_leastFor_40 : decode cX10_leastFor 40 = .ok (.getfield 135, 3) := by decide +kernel
theorem dX10_leastFor_43 : decode cX10_leastFor 43 = .ok (.iload 5, 2) := by decide +kernel
theorem dX10_leastFor_45 : decode cX10_leastFor 45 = .ok (.aload_n 0, 1) := by decide +kernel
theorem dX10_leastFor_46 : decode cX10_leastFor 46 = .ok (.getfield 114, 3) := by decide +kernel
theorem dX10_leastFor_49 : decode cX10_leastFor 49 = .ok (.iload 5, 2) := by decide +kernel
theorem dX10_leastFor_51 : decode cX10_leastFor 51 = .ok (.iaload, 1) := by decide +kernel
theorem dX10_leastFor_52 : decode cX10_leastFor 52 = .ok (.iastore, 1) := by decide +kernel
theorem dX10_leastFor_53 : decode cX10_leastFor 53 = .ok (.aload_n 0, 1) := by decide +kernel
theorem dX10_leastFor_54 : decode cX10_leastFor 54 = .ok (.getfield 114, 3) := by decide +kernel
theorem dX10_leastFor_57 : decode cX10_leastFor 57 = .ok (.iload 5, 2) := by decide +kernel
theorem dX10_leastFor_59 : decode cX10_leastFor 59 = .ok (.iload 5, 2) := by decide +kernel
theorem dX10_leastFor_61 : decode cX10_leastFor 61 = .ok (.iload_n 1, 1) := by decide +kernel
theorem dX10_leastFor_62 : decode cX10_leastFor 62 = .ok (.if_icmp .ne 7, 3) := by decide +kernel
theorem dX10_leastFor_65 : decode cX10_leastFor 65 = .ok (.iconst 0, 1) := by decide +kernel
theorem dX10_leastFor_66 : decode cX10_leastFor 66 = .ok (.goto 17, 3) := by decide +kernel
theorem dX10_leastFor_69 : decode cX10_leastFor 69 = .ok (.aload_n 0, 1) := by decide +kernel
theorem dX10_leastFor_70 : decode cX10_leastFor 70 = .ok (.getfield 114, 3) := by decide +kernel
theorem dX10_leastFor_73 : decode cX10_leastFor 73 = .ok (.iload 5, 2) := by decide +kernel
theorem dX10_leastFor_75 : decode cX10_leastFor 75 = .ok (.iaload, 1) := by decide +kernel
theorem dX10_leastFor_76 : decode cX10_leastFor 76 = .ok (.iconst 1, 1) := by decide +kernel
theorem dX10_leastFor_77 : decode cX10_leastFor 77 = .ok (.iload 4, 2) := by decide +kernel
theorem dX10_leastFor_79 : decode cX10_leastFor 79 = .ok (.ishl, 1) := by decide +kernel
theorem dX10_leastFor_80 : decode cX10_leastFor 80 = .ok (.iconst (-1), 1) := by decide +kernel
theorem dX10_leastFor_81 : decode cX10_leastFor 81 = .ok (.ixor, 1) := by decide +kernel
theorem dX10_leastFor_82 : decode cX10_leastFor 82 = .ok (.iand, 1) := by decide +kernel
theorem dX10_leastFor_83 : decode cX10_leastFor 83 = .ok (.iastore, 1) := by decide +kernel
theorem dX10_leastFor_84 : decode cX10_leastFor 84 = .ok (.iinc 5 1, 3) := by decide +kernel
theorem dX10_leastFor_87 : decode cX10_leastFor 87 = .ok (.goto (-55), 3) := by decide +kernel
theorem dX10_leastFor_90 : decode cX10_leastFor 90 = .ok (.aload_n 0, 1) := by decide +kernel
theorem dX10_leastFor_91 : decode cX10_leastFor 91 = .ok (.invokevirtual 273, 3) := by decide +kernel
theorem dX10_leastFor_94 : decode cX10_leastFor 94 = .ok (.iload_n 2, 1) := by decide +kernel
theorem dX10_leastFor_95 : decode cX10_leastFor 95 = .ok (.iconst 1, 1) := by decide +kernel
theorem dX10_leastFor_96 : decode cX10_leastFor 96 = .ok (.isub, 1) := by decide +kernel
theorem dX10_leastFor_97 : decode cX10_leastFor 97 = .ok (.if_icmp .ne 6, 3) := by decide +kernel
theorem dX10_leastFor_100 : decode cX10_leastFor 100 = .ok (.iload 4, 2) := by decide +kernel
theorem dX10_leastFor_102 : decode cX10_leastFor 102 = .ok (.ireturn, 1) := by decide +kernel
theorem dX10_leastFor_103 : decode cX10_leastFor 103 = .ok (.iconst 0, 1) := by decide +kernel
theorem dX10_leastFor_104 : decode cX10_leastFor 104 = .ok (.istore 5, 2) := by decide +kernel
theorem dX10_leastFor_106 : decode cX10_leastFor 106 = .ok (.iload 5, 2) := by decide +kernel
theorem dX10_leastFor_108 : decode cX10_leastFor 108 = .ok (.bipush 10, 2) := by decide +kernel
theorem dX10_leastFor_110 : decode cX10_leastFor 110 = .ok (.if_icmp .ge 23, 3) := by decide +kernel
theorem dX10_leastFor_113 : decode cX10_leastFor 113 = .ok (.aload_n 0, 1) := by decide +kernel
theorem dX10_leastFor_114 : decode cX10_leastFor 114 = .ok (.getfield 114, 3) := by decide +kernel
theorem dX10_leastFor_117 : decode cX10_leastFor 117 = .ok (.iload 5, 2) := by decide +kernel
theorem dX10_leastFor_119 : decode cX10_leastFor 119 = .ok (.aload_n 0, 1) := by decide +kernel
theorem dX10_leastFor_120 : decode cX10_leastFor 120 = .ok (.getfield 135, 3) := by decide +kernel
theorem dX10_leastFor_123 : decode cX10_leastFor 123 = .ok (.iload 5, 2) := by decide +kernel
theorem dX10_leastFor_125 : decode cX10_leastFor 125 = .ok (.iaload, 1) := by decide +kernel
theorem dX10_leastFor_126 : decode cX10_leastFor 126 = .ok (.iastore, 1) := by decide +kernel
theorem dX10_leastFor_127 : decode cX10_leastFor 127 = .ok (.iinc 5 1, 3) := by decide +kernel
theorem dX10_leastFor_130 : decode cX10_leastFor 130 = .ok (.goto (-24), 3) := by decide +kernel
theorem dX10_leastFor_133 : decode cX10_leastFor 133 = .ok (.iinc 4 1, 3) := by decide +kernel
theorem dX10_leastFor_136 : decode cX10_leastFor 136 = .ok (.goto (-126), 3) := by decide +kernel
theorem dX10_leastFor_139 : decode cX10_leastFor 139 = .ok (.aload_n 0, 1) := by decide +kernel
theorem dX10_leastFor_140 : decode cX10_leastFor 140 = .ok (.getfield 114, 3) := by decide +kernel
theorem dX10_leastFor_143 : decode cX10_leastFor 143 = .ok (.iload_n 1, 1) := by decide +kernel
theorem dX10_leastFor_144 : decode cX10_leastFor 144 = .ok (.iconst 0, 1) := by decide +kernel
theorem dX10_leastFor_145 : decode cX10_leastFor 145 = .ok (.iastore, 1) := by decide +kernel
theorem dX10_leastFor_146 : decode cX10_leastFor 146 = .ok (.iconst (-1), 1) := by decide +kernel
theorem dX10_leastFor_147 : decode cX10_leastFor 147 = .ok (.ireturn, 1) := by decide +kernel
theorem dX10_clothe_0 : decode cX10_clothe 0 = .ok (.iload_n 1, 1) := by decide +kernel
theorem dX10_clothe_1 : decode cX10_clothe 1 = .ok (.iconst 0, 1) := by decide +kernel
theorem dX10_clothe_2 : decode cX10_clothe 2 = .ok (.iconst 3, 1) := by decide +kernel
theorem dX10_clothe_3 : decode cX10_clothe 3 = .ok (.invokestatic 141, 3) := by decide +kernel
theorem dX10_clothe_6 : decode cX10_clothe 6 = .ok (.ifCond .ne 6, 3) := by decide +kernel
theorem dX10_clothe_9 : decode cX10_clothe 9 = .ok (.bipush (-2), 2) := by decide +kernel
theorem dX10_clothe_11 : decode cX10_clothe 11 = .ok (.ireturn, 1) := by decide +kernel
theorem dX10_clothe_12 : decode cX10_clothe 12 = .ok (.iconst 0, 1) := by decide +kernel
theorem dX10_clothe_13 : decode cX10_clothe 13 = .ok (.istore_n 2, 1) := by decide +kernel
theorem dX10_clothe_14 : decode cX10_clothe 14 = .ok (.iload_n 2, 1) := by decide +kernel
theorem dX10_clothe_15 : decode cX10_clothe 15 = .ok (.bipush 10, 2) := by decide +kernel
theorem dX10_clothe_17 : decode cX10_clothe 17 = .ok (.if_icmp .ge 103, 3) := by decide +kernel
theorem dX10_clothe_20 : decode cX10_clothe 20 = .ok (.aload_n 0, 1) := by decide +kernel
theorem dX10_clothe_21 : decode cX10_clothe 21 = .ok (.getfield 114, 3) := by decide +kernel
theorem dX10_clothe_24 : decode cX10_clothe 24 = .ok (.iload_n 2, 1) := by decide +kernel
theorem dX10_clothe_25 : decode cX10_clothe 25 = .ok (.iconst 0, 1) := by decide +kernel
theorem dX10_clothe_26 : decode cX10_clothe 26 = .ok (.iastore, 1) := by decide +kernel
theorem dX10_clothe_27 : decode cX10_clothe 27 = .ok (.iconst 0, 1) := by decide +kernel
theorem dX10_clothe_28 : decode cX10_clothe 28 = .ok (.istore_n 3, 1) := by decide +kernel
theorem dX10_clothe_29 : decode cX10_clothe 29 = .ok (.iload_n 3, 1) := by decide +kernel
theorem dX10_clothe_30 : decode cX10_clothe 30 = .ok (.aload_n 0, 1) := by decide +kernel
theorem dX10_clothe_31 : decode cX10_clothe 31 = .ok (.getfield 145, 3) := by decide +kernel
theorem dX10_clothe_34 : decode cX10_clothe 34 = .ok (.if_icmp .ge 80, 3) := by decide +kernel
theorem dX10_clothe_37 : decode cX10_clothe 37 = .ok (.aload_n 0, 1) := by decide +kernel
theorem dX10_clothe_38 : decode cX10_clothe 38 = .ok (.iload_n 2, 1) := by decide +kernel
theorem dX10_clothe_39 : decode cX10_clothe 39 = .ok (.invokevirtual 255, 3) := by decide +kernel
theorem dX10_clothe_42 : decode cX10_clothe 42 = .ok (.ifCond .eq 72, 3) := by decide +kernel
theorem dX10_clothe_45 : decode cX10_clothe 45 = .ok (.aload_n 0, 1) := by decide +kernel
theorem dX10_clothe_46 : decode cX10_clothe 46 = .ok (.iload_n 2, 1) := by decide +kernel
theorem dX10_clothe_47 : decode cX10_clothe 47 = .ok (.invokevirtual 264, 3) := by decide +kernel
theorem dX10_clothe_50 : decode cX10_clothe 50 = .ok (.ifCond .ne 64, 3) := by decide +kernel
theorem dX10_clothe_53 : decode cX10_clothe 53 = .ok (.aload_n 0, 1) := by decide +kernel
theorem dX10_clothe_54 : decode cX10_clothe 54 = .ok (.getfield 114, 3) := by decide +kernel
theorem dX10_clothe_57 : decode cX10_clothe 57 = .ok (.iload_n 2, 1) := by decide +kernel
theorem dX10_clothe_58 : decode cX10_clothe 58 = .ok (.dup2, 1) := by decide +kernel
theorem dX10_clothe_59 : decode cX10_clothe 59 = .ok (.iaload, 1) := by decide +kernel
theorem dX10_clothe_60 : decode cX10_clothe 60 = .ok (.aload_n 0, 1) := by decide +kernel
theorem dX10_clothe_61 : decode cX10_clothe 61 = .ok (.getfield 26, 3) := by decide +kernel
theorem dX10_clothe_64 : decode cX10_clothe 64 = .ok (.iload_n 3, 1) := by decide +kernel
theorem dX10_clothe_65 : decode cX10_clothe 65 = .ok (.baload, 1) := by decide +kernel
theorem dX10_clothe_66 : decode cX10_clothe 66 = .ok (.ifCond .eq 39, 3) := by decide +kernel
theorem dX10_clothe_69 : decode cX10_clothe 69 = .ok (.aload_n 0, 1) := by decide +kernel
theorem dX10_clothe_70 : decode cX10_clothe 70 = .ok (.getfield 62, 3) := by decide +kernel
theorem dX10_clothe_73 : decode cX10_clothe 73 = .ok (.iload_n 3, 1) := by decide +kernel
theorem dX10_clothe_74 : decode cX10_clothe 74 = .ok (.iaload, 1) := by decide +kernel
theorem dX10_clothe_75 : decode cX10_clothe 75 = .ok (.iconst (-1), 1) := by decide +kernel
theorem dX10_clothe_76 : decode cX10_clothe 76 = .ok (.if_icmp .eq 29, 3) := by decide +kernel
theorem dX10_clothe_79 : decode cX10_clothe 79 = .ok (.aload_n 0, 1) := by decide +kernel
theorem dX10_clothe_80 : decode cX10_clothe 80 = .ok (.getfield 65, 3) := by decide +kernel
theorem dX10_clothe_83 : decode cX10_clothe 83 = .ok (.iload_n 3, 1) := by decide +kernel
theorem dX10_clothe_84 : decode cX10_clothe 84 = .ok (.iaload, 1) := by decide +kernel
theorem dX10_clothe_85 : decode cX10_clothe 85 = .ok (.iconst (-1), 1) := by decide +kernel
theorem dX10_clothe_86 : decode cX10_clothe 86 = .ok (.if_icmp .ne 19, 3) := by decide +kernel
theorem dX10_clothe_89 : decode cX10_clothe 89 = .ok (.aload_n 0, 1) := by decide +kernel
theorem dX10_clothe_90 : decode cX10_clothe 90 = .ok (.iload_n 3, 1) := by decide +kernel
theorem dX10_clothe_91 : decode cX10_clothe 91 = .ok (.iload_n 2, 1) := by decide +kernel
theorem dX10_clothe_92 : decode cX10_clothe 92 = .ok (.iload_n 1, 1) := by decide +kernel
theorem dX10_clothe_93 : decode cX10_clothe 93 = .ok (.invokevirtual 261, 3) := by decide +kernel
theorem dX10_clothe_96 : decode cX10_clothe 96 = .ok (.ifCond .eq 9, 3) := by decide +kernel
theorem dX10_clothe_99 : decode cX10_clothe 99 = .ok (.iconst 1, 1) := by decide +kernel
theorem dX10_clothe_100 : decode cX10_clothe 100 = .ok (.iload_n 3, 1) := by decide +kernel
theorem dX10_clothe_101 : decode cX10_clothe 101 = .ok (.ishl, 1) := by decide +kernel
theorem dX10_clothe_102 : decode cX10_clothe 102 = .ok (.goto 4, 3) := by decide +kernel
theorem dX10_clothe_105 : decode cX10_clothe 105 = .ok (.iconst 0, 1) := by decide +kernel
theorem dX10_clothe_106 : decode cX10_clothe 106 = .ok (.ior, 1) := by decide +kernel
theorem dX10_clothe_107 : decode cX10_clothe 107 = .ok (.iastore, 1) := by decide +kernel
theorem dX10_clothe_108 : decode cX10_clothe 108 = .ok (.iinc 3 1, 3) := by decide +kernel
theorem dX10_clothe_111 : decode cX10_clothe 111 = .ok (.goto (-82), 3) := by decide +kernel
theorem dX10_clothe_114 : decode cX10_clothe 114 = .ok (.iinc 2 1, 3) := by decide +kernel
theorem dX10_clothe_117 : decode cX10_clothe 117 = .ok (.goto (-103), 3) := by decide +kernel
theorem dX10_clothe_120 : decode cX10_clothe 120 = .ok (.aload_n 0, 1) := by decide +kernel
theorem dX10_clothe_121 : decode cX10_clothe 121 = .ok (.invokevirtual 273, 3) := by decide +kernel
theorem dX10_clothe_124 : decode cX10_clothe 124 = .ok (.istore_n 2, 1) := by decide +kernel
theorem dX10_clothe_125 : decode cX10_clothe 125 = .ok (.iload_n 2, 1) := by decide +kernel
theorem dX10_clothe_126 : decode cX10_clothe 126 = .ok (.istore_n 3, 1) := by decide +kernel
theorem dX10_clothe_127 : decode cX10_clothe 127 = .ok (.iconst 0, 1) := by decide +kernel
theorem dX10_clothe_128 : decode cX10_clothe 128 = .ok (.istore 4, 2) := by decide +kernel
theorem dX10_clothe_130 : decode cX10_clothe 130 = .ok (.iload 4, 2) := by decide +kernel
theorem dX10_clothe_132 : decode cX10_clothe 132 = .ok (.bipush 10, 2) := by decide +kernel
theorem dX10_clothe_134 : decode cX10_clothe 134 = .ok (.if_icmp .ge 42, 3) := by decide +kernel
theorem dX10_clothe_137 : decode cX10_clothe 137 = .ok (.aload_n 0, 1) := by decide +kernel
theorem dX10_clothe_138 : decode cX10_clothe 138 = .ok (.getfield 120, 3) := by decide +kernel
theorem dX10_clothe_141 : decode cX10_clothe 141 = .ok (.iload 4, 2) := by decide +kernel
theorem dX10_clothe_143 : decode cX10_clothe 143 = .ok (.aload_n 0, 1) := by decide +kernel
theorem dX10_clothe_144 : decode cX10_clothe 144 = .ok (.iload 4, 2) := by decide +kernel
theorem dX10_clothe_146 : decode cX10_clothe 146 = .ok (.iload_n 3, 1) := by decide +kernel
theorem dX10_clothe_147 : decode cX10_clothe 147 = .ok (.invokevirtual 276, 3) := by decide +kernel
theorem dX10_clothe_150 : decode cX10_clothe 150 = .ok (.iastore, 1) := by decide +kernel
theorem dX10_clothe_151 : decode cX10_clothe 151 = .ok (.iload_n 3, 1) := by decide +kernel
theorem dX10_clothe_152 : decode cX10_clothe 152 = .ok (.aload_n 0, 1) := by decide +kernel
theorem dX10_clothe_153 : decode cX10_clothe 153 = .ok (.getfield 120, 3) := by decide +kernel
theorem dX10_clothe_156 : decode cX10_clothe 156 = .ok (.iload 4, 2) := by decide +kernel
theorem dX10_clothe_158 : decode cX10_clothe 158 = .ok (.iaload, 1) := by decide +kernel
theorem dX10_clothe_159 : decode cX10_clothe 159 = .ok (.iconst (-1), 1) := by decide +kernel
theorem dX10_clothe_160 : decode cX10_clothe 160 = .ok (.if_icmp .eq 7, 3) := by decide +kernel
theorem dX10_clothe_163 : decode cX10_clothe 163 = .ok (.iconst 1, 1) := by decide +kernel
theorem dX10_clothe_164 : decode cX10_clothe 164 = .ok (.goto 4, 3) := by decide +kernel
theorem dX10_clothe_167 : decode cX10_clothe 167 = .ok (.iconst 0, 1) := by decide +kernel
theorem dX10_clothe_168 : decode cX10_clothe 168 = .ok (.isub, 1) := by decide +kernel
theorem dX10_clothe_169 : decode cX10_clothe 169 = .ok (.istore_n 3, 1) := by decide +kernel
theorem dX10_clothe_170 : decode cX10_clothe 170 = .ok (.iinc 4 1, 3) := by decide +kernel
theorem dX10_clothe_173 : decode cX10_clothe 173 = .ok (.goto (-43), 3) := by decide +kernel
theorem dX10_clothe_176 : decode cX10_clothe 176 = .ok (.iload_n 2, 1) := by decide +kernel
theorem dX10_clothe_177 : decode cX10_clothe 177 = .ok (.ireturn, 1) := by decide +kernel
theorem dX10_gets_0 : decode cX10_gets 0 = .ok (.iload_n 1, 1) := by decide +kernel
theorem dX10_gets_1 : decode cX10_gets 1 = .ok (.iconst 0, 1) := by decide +kernel
theorem dX10_gets_2 : decode cX10_gets 2 = .ok (.bipush 9, 2) := by decide +kernel
theorem dX10_gets_4 : decode cX10_gets 4 = .ok (.invokestatic 141, 3) := by decide +kernel
theorem dX10_gets_7 : decode cX10_gets 7 = .ok (.ifCond .eq 12, 3) := by decide +kernel
theorem dX10_gets_10 : decode cX10_gets 10 = .ok (.aload_n 0, 1) := by decide +kernel
theorem dX10_gets_11 : decode cX10_gets 11 = .ok (.getfield 120, 3) := by decide +kernel
theorem dX10_gets_14 : decode cX10_gets 14 = .ok (.iload_n 1, 1) := by decide +kernel
theorem dX10_gets_15 : decode cX10_gets 15 = .ok (.iaload, 1) := by decide +kernel
theorem dX10_gets_16 : decode cX10_gets 16 = .ok (.goto 4, 3) := by decide +kernel
theorem dX10_gets_19 : decode cX10_gets 19 = .ok (.iconst (-1), 1) := by decide +kernel
theorem dX10_gets_20 : decode cX10_gets 20 = .ok (.ireturn, 1) := by decide +kernel
theorem dX10_count_0 : decode cX10_count 0 = .ok (.iconst 0, 1) := by decide +kernel
theorem dX10_count_1 : decode cX10_count 1 = .ok (.istore_n 2, 1) := by decide +kernel
theorem dX10_count_2 : decode cX10_count 2 = .ok (.iload_n 1, 1) := by decide +kernel
theorem dX10_count_3 : decode cX10_count 3 = .ok (.tableswitch 254 0 5 #[37, 72, 107, 152, 244, 249], 37) := by decide +kernel
theorem dX10_count_40 : decode cX10_count 40 = .ok (.iconst 0, 1) := by decide +kernel
theorem dX10_count_41 : decode cX10_count 41 = .ok (.istore_n 3, 1) := by decide +kernel
theorem dX10_count_42 : decode cX10_count 42 = .ok (.iload_n 3, 1) := by decide +kernel
theorem dX10_count_43 : decode cX10_count 43 = .ok (.aload_n 0, 1) := by decide +kernel
theorem dX10_count_44 : decode cX10_count 44 = .ok (.getfield 138, 3) := by decide +kernel
theorem dX10_count_47 : decode cX10_count 47 = .ok (.if_icmp .ge 26, 3) := by decide +kernel
theorem dX10_count_50 : decode cX10_count 50 = .ok (.iload_n 2, 1) := by decide +kernel
theorem dX10_count_51 : decode cX10_count 51 = .ok (.aload_n 0, 1) := by decide +kernel
theorem dX10_count_52 : decode cX10_count 52 = .ok (.getfield 7, 3) := by decide +kernel
theorem dX10_count_55 : decode cX10_count 55 = .ok (.iload_n 3, 1) := by decide +kernel
theorem dX10_count_56 : decode cX10_count 56 = .ok (.baload, 1) := by decide +kernel
theorem dX10_count_57 : decode cX10_count 57 = .ok (.ifCond .eq 7, 3) := by decide +kernel
theorem dX10_count_60 : decode cX10_count 60 = .ok (.iconst 1, 1) := by decide +kernel
theorem dX10_count_61 : decode cX10_count 61 = .ok (.goto 4, 3) := by decide +kernel
theorem dX10_count_64 : decode cX10_count 64 = .ok (.iconst 0, 1) := by decide +kernel
theorem dX10_count_65 : decode cX10_count 65 = .ok (.iadd, 1) := by decide +kernel
theorem dX10_count_66 : decode cX10_count 66 = .ok (.istore_n 2, 1) := by decide +kernel
theorem dX10_count_67 : decode cX10_count 67 = .ok (.iinc 3 1, 3) := by decide +kernel
theorem dX10_count_70 : decode cX10_count 70 = .ok (.goto (-28), 3) := by decide +kernel
theorem dX10_count_73 : decode cX10_count 73 = .ok (.iload_n 2, 1) := by decide +kernel
theorem dX10_count_74 : decode cX10_count 74 = .ok (.ireturn, 1) := by decide +kernel
theorem dX10_count_75 : decode cX10_count 75 = .ok (.iconst 0, 1) := by decide +kernel
theorem dX10_count_76 : decode cX10_count 76 = .ok (.istore_n 3, 1) := by decide +kernel
theorem dX10_count_77 : decode cX10_count 77 = .ok (.iload_n 3, 1) := by decide +kernel
theorem dX10_count_78 : decode cX10_count 78 = .ok (.aload_n 0, 1) := by decide +kernel
theorem dX10_count_79 : decode cX10_count 79 = .ok (.getfield 145, 3) := by decide +kernel
theorem dX10_count_82 : decode cX10_count 82 = .ok (.if_icmp .ge 26, 3) := by decide +kernel
theorem dX10_count_85 : decode cX10_count 85 = .ok (.iload_n 2, 1) := by decide +kernel
theorem dX10_count_86 : decode cX10_count 86 = .ok (.aload_n 0, 1) := by decide +kernel
theorem dX10_count_87 : decode cX10_count 87 = .ok (.getfield 26, 3) := by decide +kernel
theorem dX10_count_90 : decode cX10_count 90 = .ok (.iload_n 3, 1) := by decide +kernel
theorem dX10_count_91 : decode cX10_count 91 = .ok (.baload, 1) := by decide +kernel
theorem dX10_count_92 : decode cX10_count 92 = .ok (.ifCond .eq 7, 3) := by decide +kernel
theorem dX10_count_95 : decode cX10_count 95 = .ok (.iconst 1, 1) := by decide +kernel
theorem dX10_count_96 : decode cX10_count 96 = .ok (.goto 4, 3) := by decide +kernel
theorem dX10_count_99 : decode cX10_count 99 = .ok (.iconst 0, 1) := by decide +kernel
theorem dX10_count_100 : decode cX10_count 100 = .ok (.iadd, 1) := by decide +kernel
theorem dX10_count_101 : decode cX10_count 101 = .ok (.istore_n 2, 1) := by decide +kernel
theorem dX10_count_102 : decode cX10_count 102 = .ok (.iinc 3 1, 3) := by decide +kernel
theorem dX10_count_105 : decode cX10_count 105 = .ok (.goto (-28), 3) := by decide +kernel
theorem dX10_count_108 : decode cX10_count 108 = .ok (.iload_n 2, 1) := by decide +kernel
theorem dX10_count_109 : decode cX10_count 109 = .ok (.ireturn, 1) := by decide +kernel
theorem dX10_count_110 : decode cX10_count 110 = .ok (.iconst 0, 1) := by decide +kernel
theorem dX10_count_111 : decode cX10_count 111 = .ok (.istore_n 3, 1) := by decide +kernel
theorem dX10_count_112 : decode cX10_count 112 = .ok (.iload_n 3, 1) := by decide +kernel
theorem dX10_count_113 : decode cX10_count 113 = .ok (.aload_n 0, 1) := by decide +kernel
theorem dX10_count_114 : decode cX10_count 114 = .ok (.getfield 145, 3) := by decide +kernel
theorem dX10_count_117 : decode cX10_count 117 = .ok (.if_icmp .ge 36, 3) := by decide +kernel
theorem dX10_count_120 : decode cX10_count 120 = .ok (.iload_n 2, 1) := by decide +kernel
theorem dX10_count_121 : decode cX10_count 121 = .ok (.aload_n 0, 1) := by decide +kernel
theorem dX10_count_122 : decode cX10_count 122 = .ok (.getfield 26, 3) := by decide +kernel
theorem dX10_count_125 : decode cX10_count 125 = .ok (.iload_n 3, 1) := by decide +kernel
theorem dX10_count_126 : decode cX10_count 126 = .ok (.baload, 1) := by decide +kernel
theorem dX10_count_127 : decode cX10_count 127 = .ok (.ifCond .eq 17, 3) := by decide +kernel
theorem dX10_count_130 : decode cX10_count 130 = .ok (.aload_n 0, 1) := by decide +kernel
theorem dX10_count_131 : decode cX10_count 131 = .ok (.getfield 65, 3) := by decide +kernel
theorem dX10_count_134 : decode cX10_count 134 = .ok (.iload_n 3, 1) := by decide +kernel
theorem dX10_count_135 : decode cX10_count 135 = .ok (.iaload, 1) := by decide +kernel
theorem dX10_count_136 : decode cX10_count 136 = .ok (.iconst (-1), 1) := by decide +kernel
theorem dX10_count_137 : decode cX10_count 137 = .ok (.if_icmp .eq 7, 3) := by decide +kernel
theorem dX10_count_140 : decode cX10_count 140 = .ok (.iconst 1, 1) := by decide +kernel
theorem dX10_count_141 : decode cX10_count 141 = .ok (.goto 4, 3) := by decide +kernel
theorem dX10_count_144 : decode cX10_count 144 = .ok (.iconst 0, 1) := by decide +kernel
theorem dX10_count_145 : decode cX10_count 145 = .ok (.iadd, 1) := by decide +kernel
theorem dX10_count_146 : decode cX10_count 146 = .ok (.istore_n 2, 1) := by decide +kernel
theorem dX10_count_147 : decode cX10_count 147 = .ok (.iinc 3 1, 3) := by decide +kernel
theorem dX10_count_150 : decode cX10_count 150 = .ok (.goto (-38), 3) := by decide +kernel
theorem dX10_count_153 : decode cX10_count 153 = .ok (.iload_n 2, 1) := by decide +kernel
theorem dX10_count_154 : decode cX10_count 154 = .ok (.ireturn, 1) := by decide +kernel
theorem dX10_count_155 : decode cX10_count 155 = .ok (.iconst 0, 1) := by decide +kernel
theorem dX10_count_156 : decode cX10_count 156 = .ok (.istore_n 3, 1) := by decide +kernel
theorem dX10_count_157 : decode cX10_count 157 = .ok (.iload_n 3, 1) := by decide +kernel
theorem dX10_count_158 : decode cX10_count 158 = .ok (.aload_n 0, 1) := by decide +kernel
theorem dX10_count_159 : decode cX10_count 159 = .ok (.getfield 138, 3) := by decide +kernel
theorem dX10_count_162 : decode cX10_count 162 = .ok (.if_icmp .ge 31, 3) := by decide +kernel
theorem dX10_count_165 : decode cX10_count 165 = .ok (.iload_n 2, 1) := by decide +kernel
theorem dX10_count_166 : decode cX10_count 166 = .ok (.aload_n 0, 1) := by decide +kernel
theorem dX10_count_167 : decode cX10_count 167 = .ok (.getfield 7, 3) := by decide +kernel
theorem dX10_count_170 : decode cX10_count 170 = .ok (.iload_n 3, 1) := by decide +kernel
theorem dX10_count_171 : decode cX10_count 171 = .ok (.baload, 1) := by decide +kernel
theorem dX10_count_172 : decode cX10_count 172 = .ok (.ifCond .eq 12, 3) := by decide +kernel
theorem dX10_count_175 : decode cX10_count 175 = .ok (.aload_n 0, 1) := by decide +kernel
theorem dX10_count_176 : decode cX10_count 176 = .ok (.getfield 13, 3) := by decide +kernel
theorem dX10_count_179 : decode cX10_count 179 = .ok (.iload_n 3, 1) := by decide +kernel
theorem dX10_count_180 : decode cX10_count 180 = .ok (.iaload, 1) := by decide +kernel
theorem dX10_count_181 : decode cX10_count 181 = .ok (.goto 4, 3) := by decide +kernel
theorem dX10_count_184 : decode cX10_count 184 = .ok (.iconst 0, 1) := by decide +kernel
theorem dX10_count_185 : decode cX10_count 185 = .ok (.iadd, 1) := by decide +kernel
theorem dX10_count_186 : decode cX10_count 186 = .ok (.istore_n 2, 1) := by decide +kernel
theorem dX10_count_187 : decode cX10_count 187 = .ok (.iinc 3 1, 3) := by decide +kernel
theorem dX10_count_190 : decode cX10_count 190 = .ok (.goto (-33), 3) := by decide +kernel
theorem dX10_count_193 : decode cX10_count 193 = .ok (.iconst 0, 1) := by decide +kernel
theorem dX10_count_194 : decode cX10_count 194 = .ok (.istore_n 3, 1) := by decide +kernel
theorem dX10_count_195 : decode cX10_count 195 = .ok (.iload_n 3, 1) := by decide +kernel
theorem dX10_count_196 : decode cX10_count 196 = .ok (.aload_n 0, 1) := by decide +kernel
theorem dX10_count_197 : decode cX10_count 197 = .ok (.getfield 145, 3) := by decide +kernel
theorem dX10_count_200 : decode cX10_count 200 = .ok (.if_icmp .ge 45, 3) := by decide +kernel
theorem dX10_count_203 : decode cX10_count 203 = .ok (.iload_n 2, 1) := by decide +kernel
theorem dX10_count_204 : decode cX10_count 204 = .ok (.aload_n 0, 1) := by decide +kernel
theorem dX10_count_205 : decode cX10_count 205 = .ok (.getfield 26, 3) := by decide +kernel
theorem dX10_count_208 : decode cX10_count 208 = .ok (.iload_n 3, 1) := by decide +kernel
theorem dX10_count_209 : decode cX10_count 209 = .ok (.baload, 1) := by decide +kernel
theorem dX10_count_210 : decode cX10_count 210 = .ok (.ifCond .eq 26, 3) := by decide +kernel
theorem dX10_count_213 : decode cX10_count 213 = .ok (.aload_n 0, 1) := by decide +kernel
theorem dX10_count_214 : decode cX10_count 214 = .ok (.iload_n 3, 1) := by decide +kernel
theorem dX10_count_215 : decode cX10_count 215 = .ok (.invokevirtual 216, 3) := by decide +kernel
theorem dX10_count_218 : decode cX10_count 218 = .ok (.aload_n 0, 1) := by decide +kernel
theorem dX10_count_219 : decode cX10_count 219 = .ok (.getfield 50, 3) := by decide +kernel
theorem dX10_count_222 : decode cX10_count 222 = .ok (.iload_n 3, 1) := by decide +kernel
theorem dX10_count_223 : decode cX10_count 223 = .ok (.baload, 1) := by decide +kernel
theorem dX10_count_224 : decode cX10_count 224 = .ok (.ifCond .eq 7, 3) := by decide +kernel
theorem dX10_count_227 : decode cX10_count 227 = .ok (.iconst 2, 1) := by decide +kernel
theorem dX10_count_228 : decode cX10_count 228 = .ok (.goto 4, 3) := by decide +kernel
theorem dX10_count_231 : decode cX10_count 231 = .ok (.iconst 1, 1) := by decide +kernel
theorem dX10_count_232 : decode cX10_count 232 = .ok (.imul, 1) := by decide +kernel
theorem dX10_count_233 : decode cX10_count 233 = .ok (.goto 4, 3) := by decide +kernel
theorem dX10_count_236 : decode cX10_count 236 = .ok (.iconst 0, 1) := by decide +kernel
theorem dX10_count_237 : decode cX10_count 237 = .ok (.iadd, 1) := by decide +kernel
theorem dX10_count_238 : decode cX10_count 238 = .ok (.istore_n 2, 1) := by decide +kernel
theorem dX10_count_239 : decode cX10_count 239 = .ok (.iinc 3 1, 3) := by decide +kernel
theorem dX10_count_242 : decode cX10_count 242 = .ok (.goto (-47), 3) := by decide +kernel
theorem dX10_count_245 : decode cX10_count 245 = .ok (.iload_n 2, 1) := by decide +kernel
theorem dX10_count_246 : decode cX10_count 246 = .ok (.ireturn, 1) := by decide +kernel
theorem dX10_count_247 : decode cX10_count 247 = .ok (.aload_n 0, 1) := by decide +kernel
theorem dX10_count_248 : decode cX10_count 248 = .ok (.getfield 148, 3) := by decide +kernel
theorem dX10_count_251 : decode cX10_count 251 = .ok (.ireturn, 1) := by decide +kernel
theorem dX10_count_252 : decode cX10_count 252 = .ok (.aload_n 0, 1) := by decide +kernel
theorem dX10_count_253 : decode cX10_count 253 = .ok (.getfield 138, 3) := by decide +kernel
theorem dX10_count_256 : decode cX10_count 256 = .ok (.ireturn, 1) := by decide +kernel
theorem dX10_count_257 : decode cX10_count 257 = .ok (.iconst (-1), 1) := by decide +kernel
theorem dX10_count_258 : decode cX10_count 258 = .ok (.ireturn, 1) := by decide +kernel
