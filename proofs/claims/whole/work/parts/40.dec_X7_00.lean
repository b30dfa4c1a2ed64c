theorem dX7_init_0 : decode cX7_init 0 = .ok (.aload_n 0, 1) := by decide +kernel
theorem dX7_init_1 : decode cX7_init 1 = .ok (.invokespecial 3, 3) := by decide +kernel
theorem dX7_init_4 : decode cX7_init 4 = .ok (.aload_n 0, 1) := by decide +kernel
theorem dX7_init_5 : decode cX7_init 5 = .ok (.new 9, 3) := by decide +kernel
theorem dX7_init_8 : decode cX7_init 8 = .ok (.dup, 1) := by decide +kernel
theorem dX7_init_9 : decode cX7_init 9 = .ok (.invokespecial 11, 3) := by decide +kernel
theorem dX7_init_12 : decode cX7_init 12 = .ok (.putfield 12, 3) := by decide +kernel
theorem dX7_init_15 : decode cX7_init 15 = .ok (.aload_n 0, 1) := by decide +kernel
theorem dX7_init_16 : decode cX7_init 16 = .ok (.sipush 5184, 3) := by decide +kernel
theorem dX7_init_19 : decode cX7_init 19 = .ok (.newarray .int, 2) := by decide +kernel
theorem dX7_init_21 : decode cX7_init 21 = .ok (.putfield 18, 3) := by decide +kernel
theorem dX7_init_24 : decode cX7_init 24 = .ok (.aload_n 0, 1) := by decide +kernel
theorem dX7_init_25 : decode cX7_init 25 = .ok (.bipush 6, 2) := by decide +kernel
theorem dX7_init_27 : decode cX7_init 27 = .ok (.newarray .int, 2) := by decide +kernel
theorem dX7_init_29 : decode cX7_init 29 = .ok (.putfield 22, 3) := by decide +kernel
theorem dX7_init_32 : decode cX7_init 32 = .ok (.aload_n 0, 1) := by decide +kernel
theorem dX7_init_33 : decode cX7_init 33 = .ok (.iconst 5, 1) := by decide +kernel
theorem dX7_init_34 : decode cX7_init 34 = .ok (.newarray .int, 2) := by decide +kernel
theorem dX7_init_36 : decode cX7_init 36 = .ok (.putfield 25, 3) := by decide +kernel
theorem dX7_init_39 : decode cX7_init 39 = .ok (.aload_n 0, 1) := by decide +kernel
theorem dX7_init_40 : decode cX7_init 40 = .ok (.bipush 6, 2) := by decide +kernel
theorem dX7_init_42 : decode cX7_init 42 = .ok (.newarray .int, 2) := by decide +kernel
theorem dX7_init_44 : decode cX7_init 44 = .ok (.putfield 28, 3) := by decide +kernel
theorem dX7_init_47 : decode cX7_init 47 = .ok (.aload_n 0, 1) := by decide +kernel
theorem dX7_init_48 : decode cX7_init 48 = .ok (.bipush 6, 2) := by decide +kernel
theorem dX7_init_50 : decode cX7_init 50 = .ok (.newarray .int, 2) := by decide +kernel
theorem dX7_init_52 : decode cX7_init 52 = .ok (.putfield 31, 3) := by decide +kernel
theorem dX7_init_55 : decode cX7_init 55 = .ok (.return_, 1) := by decide +kernel
theorem dX7_find_0 : decode cX7_find 0 = .ok (.aload_n 0, 1) := by decide +kernel
theorem dX7_find_1 : decode cX7_find 1 = .ok (.iload_n 1, 1) := by decide +kernel
theorem dX7_find_2 : decode cX7_find 2 = .ok (.putfield 34, 3) := by decide +kernel
theorem dX7_find_5 : decode cX7_find 5 = .ok (.aload_n 0, 1) := by decide +kernel
theorem dX7_find_6 : decode cX7_find 6 = .ok (.ldc 38, 2) := by decide +kernel
theorem dX7_find_8 : decode cX7_find 8 = .ok (.putfield 39, 3) := by decide +kernel
theorem dX7_find_11 : decode cX7_find 11 = .ok (.aload_n 0, 1) := by decide +kernel
theorem dX7_find_12 : decode cX7_find 12 = .ok (.getfield 18, 3) := by decide +kernel
theorem dX7_find_15 : decode cX7_find 15 = .ok (.iconst (-1), 1) := by decide +kernel
theorem dX7_find_16 : decode cX7_find 16 = .ok (.invokestatic 43, 3) := by decide +kernel
theorem dX7_find_19 : decode cX7_find 19 = .ok (.aload_n 0, 1) := by decide +kernel
theorem dX7_find_20 : decode cX7_find 20 = .ok (.iconst 0, 1) := by decide +kernel
theorem dX7_find_21 : decode cX7_find 21 = .ok (.iconst 0, 1) := by decide +kernel
theorem dX7_find_22 : decode cX7_find 22 = .ok (.iconst 0, 1) := by decide +kernel
theorem dX7_find_23 : decode cX7_find 23 = .ok (.iconst 0, 1) := by decide +kernel
theorem dX7_find_24 : decode cX7_find 24 = .ok (.iconst 0, 1) := by decide +kernel
theorem dX7_find_25 : decode cX7_find 25 = .ok (.iconst 0, 1) := by decide +kernel
theorem dX7_find_26 : decode cX7_find 26 = .ok (.invokevirtual 49, 3) := by decide +kernel
theorem dX7_find_29 : decode cX7_find 29 = .ok (.return_, 1) := by decide +kernel
theorem dX7_extend_0 : decode cX7_extend 0 = .ok (.iload_n 1, 1) := by decide +kernel
theorem dX7_extend_1 : decode cX7_extend 1 = .ok (.bipush 6, 2) := by decide +kernel
theorem dX7_extend_3 : decode cX7_extend 3 = .ok (.if_icmp .lt 11, 3) := by decide +kernel
theorem dX7_extend_6 : decode cX7_extend 6 = .ok (.aload_n 0, 1) := by decide +kernel
theorem dX7_extend_7 : decode cX7_extend 7 = .ok (.iload_n 3, 1) := by decide +kernel
theorem dX7_extend_8 : decode cX7_extend 8 = .ok (.iload 5, 2) := by decide +kernel
theorem dX7_extend_10 : decode cX7_extend 10 = .ok (.invokevirtual 53, 3) := by decide +kernel
theorem dX7_extend_13 : decode cX7_extend 13 = .ok (.return_, 1) := by decide +kernel
theorem dX7_extend_14 : decode cX7_extend 14 = .ok (.iload_n 2, 1) := by decide +kernel
theorem dX7_extend_15 : decode cX7_extend 15 = .ok (.invokestatic 57, 3) := by decide +kernel
theorem dX7_extend_18 : decode cX7_extend 18 = .ok (.istore 7, 2) := by decide +kernel
theorem dX7_extend_20 : decode cX7_extend 20 = .ok (.iconst 0, 1) := by decide +kernel
theorem dX7_extend_21 : decode cX7_extend 21 = .ok (.istore 8, 2) := by decide +kernel
theorem dX7_extend_23 : decode cX7_extend 23 = .ok (.iload 8, 2) := by decide +kernel
theorem dX7_extend_25 : decode cX7_extend 25 = .ok (.bipush 6, 2) := by decide +kernel
theorem dX7_extend_27 : decode cX7_extend 27 = .ok (.if_icmp .ge 116, 3) := by decide +kernel
theorem dX7_extend_30 : decode cX7_extend 30 = .ok (.iload_n 2, 1) := by decide +kernel
theorem dX7_extend_31 : decode cX7_extend 31 = .ok (.iload 8, 2) := by decide +kernel
theorem dX7_extend_33 : decode cX7_extend 33 = .ok (.ishr, 1) := by decide +kernel
theorem dX7_extend_34 : decode cX7_extend 34 = .ok (.iconst 1, 1) := by decide +kernel
theorem dX7_extend_35 : decode cX7_extend 35 = .ok (.iand, 1) := by decide +kernel
theorem dX7_extend_36 : decode cX7_extend 36 = .ok (.ifCond .ne 101, 3) := by decide +kernel
theorem dX7_extend_39 : decode cX7_extend 39 = .ok (.aload_n 0, 1) := by decide +kernel
theorem dX7_extend_40 : decode cX7_extend 40 = .ok (.getfield 12, 3) := by decide +kernel
theorem dX7_extend_43 : decode cX7_extend 43 = .ok (.getfield 61, 3) := by decide +kernel
theorem dX7_extend_46 : decode cX7_extend 46 = .ok (.iload 8, 2) := by decide +kernel
theorem dX7_extend_48 : decode cX7_extend 48 = .ok (.iload 4, 2) := by decide +kernel
theorem dX7_extend_50 : decode cX7_extend 50 = .ok (.iastore, 1) := by decide +kernel
theorem dX7_extend_51 : decode cX7_extend 51 = .ok (.aload_n 0, 1) := by decide +kernel
theorem dX7_extend_52 : decode cX7_extend 52 = .ok (.getfield 22, 3) := by decide +kernel
theorem dX7_extend_55 : decode cX7_extend 55 = .ok (.iload 8, 2) := by decide +kernel
theorem dX7_extend_57 : decode cX7_extend 57 = .ok (.iload 7, 2) := by decide +kernel
theorem dX7_extend_59 : decode cX7_extend 59 = .ok (.iastore, 1) := by decide +kernel
theorem dX7_extend_60 : decode cX7_extend 60 = .ok (.iload 5, 2) := by decide +kernel
theorem dX7_extend_62 : decode cX7_extend 62 = .ok (.aload_n 0, 1) := by decide +kernel
theorem dX7_extend_63 : decode cX7_extend 63 = .ok (.getfield 12, 3) := by decide +kernel
theorem dX7_extend_66 : decode cX7_extend 66 = .ok (.iload 8, 2) := by decide +kernel
theorem dX7_extend_68 : decode cX7_extend 68 = .ok (.invokevirtual 64, 3) := by decide +kernel
theorem dX7_extend_71 : decode cX7_extend 71 = .ok (.iadd, 1) := by decide +kernel
theorem dX7_extend_72 : decode cX7_extend 72 = .ok (.istore 9, 2) := by decide +kernel
theorem dX7_extend_74 : decode cX7_extend 74 = .ok (.iload 6, 2) := by decide +kernel
theorem dX7_extend_76 : decode cX7_extend 76 = .ok (.aload_n 0, 1) := by decide +kernel
theorem dX7_extend_77 : decode cX7_extend 77 = .ok (.iload 8, 2) := by decide +kernel
theorem dX7_extend_79 : decode cX7_extend 79 = .ok (.iload_n 2, 1) := by decide +kernel
theorem dX7_extend_80 : decode cX7_extend 80 = .ok (.invokevirtual 67, 3) := by decide +kernel
theorem dX7_extend_83 : decode cX7_extend 83 = .ok (.iadd, 1) := by decide +kernel
theorem dX7_extend_84 : decode cX7_extend 84 = .ok (.istore 10, 2) := by decide +kernel
theorem dX7_extend_86 : decode cX7_extend 86 = .ok (.iconst 5, 1) := by decide +kernel
theorem dX7_extend_87 : decode cX7_extend 87 = .ok (.iload 9, 2) := by decide +kernel
theorem dX7_extend_89 : decode cX7_extend 89 = .ok (.imul, 1) := by decide +kernel
theorem dX7_extend_90 : decode cX7_extend 90 = .ok (.iload 10, 2) := by decide +kernel
theorem dX7_extend_92 : decode cX7_extend 92 = .ok (.iadd, 1) := by decide +kernel
theorem dX7_extend_93 : decode cX7_extend 93 = .ok (.aload_n 0, 1) := by decide +kernel
theorem dX7_extend_94 : decode cX7_extend 94 = .ok (.getfield 39, 3) := by decide +kernel
theorem dX7_extend_97 : decode cX7_extend 97 = .ok (.if_icmp .ge 40, 3) := by decide +kernel
theorem dX7_extend_100 : decode cX7_extend 100 = .ok (.aload_n 0, 1) := by decide +kernel
theorem dX7_extend_101 : decode cX7_extend 101 = .ok (.iload_n 1, 1) := by decide +kernel
theorem dX7_extend_102 : decode cX7_extend 102 = .ok (.iconst 1, 1) := by decide +kernel
theorem dX7_extend_103 : decode cX7_extend 103 = .ok (.iadd, 1) := by decide +kernel
theorem dX7_extend_104 : decode cX7_extend 104 = .ok (.iload_n 2, 1) := by decide +kernel
theorem dX7_extend_105 : decode cX7_extend 105 = .ok (.iconst 1, 1) := by decide +kernel
theorem dX7_extend_106 : decode cX7_extend 106 = .ok (.iload 8, 2) := by decide +kernel
theorem dX7_extend_108 : decode cX7_extend 108 = .ok (.ishl, 1) := by decide +kernel
theorem dX7_extend_109 : decode cX7_extend 109 = .ok (.ior, 1) := by decide +kernel
theorem dX7_extend_110 : decode cX7_extend 110 = .ok (.iload_n 3, 1) := by decide +kernel
theorem dX7_extend_111 : decode cX7_extend 111 = .ok (.bipush 6, 2) := by decide +kernel
theorem dX7_extend_113 : decode cX7_extend 113 = .ok (.imul, 1) := by decide +kernel
theorem dX7_extend_114 : decode cX7_extend 114 = .ok (.iload 8, 2) := by decide +kernel
theorem dX7_extend_116 : decode cX7_extend 116 = .ok (.iadd, 1) := by decide +kernel
theorem dX7_extend_117 : decode cX7_extend 117 = .ok (.iload 4, 2) := by decide +kernel
theorem dX7_extend_119 : decode cX7_extend 119 = .ok (.aload_n 0, 1) := by decide +kernel
theorem dX7_extend_120 : decode cX7_extend 120 = .ok (.getfield 12, 3) := by decide +kernel
theorem dX7_extend_123 : decode cX7_extend 123 = .ok (.getfield 71, 3) := by decide +kernel
theorem dX7_extend_126 : decode cX7_extend 126 = .ok (.iload 8, 2) := by decide +kernel
theorem dX7_extend_128 : decode cX7_extend 128 = .ok (.iaload, 1) := by decide +kernel
theorem dX7_extend_129 : decode cX7_extend 129 = .ok (.iadd, 1) := by decide +kernel
theorem dX7_extend_130 : decode cX7_extend 130 = .ok (.iload 9, 2) := by decide +kernel
theorem dX7_extend_132 : decode cX7_extend 132 = .ok (.iload 10, 2) := by decide +kernel
theorem dX7_extend_134 : decode cX7_extend 134 = .ok (.invokevirtual 49, 3) := by decide +kernel
theorem dX7_extend_137 : decode cX7_extend 137 = .ok (.iinc 8 1, 3) := by decide +kernel
theorem dX7_extend_140 : decode cX7_extend 140 = .ok (.goto (-117), 3) := by decide +kernel
theorem dX7_extend_143 : decode cX7_extend 143 = .ok (.return_, 1) := by decide +kernel
theorem dX7_startCodeOf_0 : decode cX7_startCodeOf 0 = .ok (.iload_n 0, 1) := by decide +kernel
theorem dX7_startCodeOf_1 : decode cX7_startCodeOf 1 = .ok (.iconst 1, 1) := by decide +kernel
theorem dX7_startCodeOf_2 : decode cX7_startCodeOf 2 = .ok (.iand, 1) := by decide +kernel
theorem dX7_startCodeOf_3 : decode cX7_startCodeOf 3 = .ok (.iload_n 0, 1) := by decide +kernel
theorem dX7_startCodeOf_4 : decode cX7_startCodeOf 4 = .ok (.iconst 1, 1) := by decide +kernel
theorem dX7_startCodeOf_5 : decode cX7_startCodeOf 5 = .ok (.ishr, 1) := by decide +kernel
theorem dX7_startCodeOf_6 : decode cX7_startCodeOf 6 = .ok (.iconst 1, 1) := by decide +kernel
theorem dX7_startCodeOf_7 : decode cX7_startCodeOf 7 = .ok (.iand, 1) := by decide +kernel
theorem dX7_startCodeOf_8 : decode cX7_startCodeOf 8 = .ok (.iadd, 1) := by decide +kernel
theorem dX7_startCodeOf_9 : decode cX7_startCodeOf 9 = .ok (.istore_n 1, 1) := by decide +kernel
theorem dX7_startCodeOf_10 : decode cX7_startCodeOf 10 = .ok (.iload_n 0, 1) := by decide +kernel
theorem dX7_startCodeOf_11 : decode cX7_startCodeOf 11 = .ok (.iconst 2, 1) := by decide +kernel
theorem dX7_startCodeOf_12 : decode cX7_startCodeOf 12 = .ok (.ishr, 1) := by decide +kernel
theorem dX7_startCodeOf_13 : decode cX7_startCodeOf 13 = .ok (.iconst 1, 1) := by decide +kernel
theorem dX7_startCodeOf_14 : decode cX7_startCodeOf 14 = .ok (.iand, 1) := by decide +kernel
theorem dX7_startCodeOf_15 : decode cX7_startCodeOf 15 = .ok (.iload_n 0, 1) := by decide +kernel
theorem dX7_startCodeOf_16 : decode cX7_startCodeOf 16 = .ok (.iconst 3, 1) := by decide +kernel
theorem dX7_startCodeOf_17 : decode cX7_startCodeOf 17 = .ok (.ishr, 1) := by decide +kernel
theorem dX7_startCodeOf_18 : decode cX7_startCodeOf 18 = .ok (.iconst 1, 1) := by decide +kernel
theorem dX7_startCodeOf_19 : decode cX7_startCodeOf 19 = .ok (.iand, 1) := by decide +kernel
theorem dX7_startCodeOf_20 : decode cX7_startCodeOf 20 = .ok (.iadd, 1) := by decide +kernel
theorem dX7_startCodeOf_21 : decode cX7_startCodeOf 21 = .ok (.istore_n 2, 1) := by decide +kernel
theorem dX7_startCodeOf_22 : decode cX7_startCodeOf 22 = .ok (.iload_n 1, 1) := by decide +kernel
theorem dX7_startCodeOf_23 : decode cX7_startCodeOf 23 = .ok (.iconst 3, 1) := by decide +kernel
theorem dX7_startCodeOf_24 : decode cX7_startCodeOf 24 = .ok (.iload_n 2, 1) := by decide +kernel
theorem dX7_startCodeOf_25 : decode cX7_startCodeOf 25 = .ok (.imul, 1) := by decide +kernel
theorem dX7_startCodeOf_26 : decode cX7_startCodeOf 26 = .ok (.iadd, 1) := by decide +kernel
theorem dX7_startCodeOf_27 : decode cX7_startCodeOf 27 = .ok (.bipush 9, 2) := by decide +kernel
theorem dX7_startCodeOf_29 : decode cX7_startCodeOf 29 = .ok (.iload_n 0, 1) := by decide +kernel
theorem dX7_startCodeOf_30 : decode cX7_startCodeOf 30 = .ok (.iconst 4, 1) := by decide +kernel
theorem dX7_startCodeOf_31 : decode cX7_startCodeOf 31 = .ok (.ishr, 1) := by decide +kernel
theorem dX7_startCodeOf_32 : decode cX7_startCodeOf 32 = .ok (.imul, 1) := by decide +kernel
theorem dX7_startCodeOf_33 : decode cX7_startCodeOf 33 = .ok (.iadd, 1) := by decide +kernel
theorem dX7_startCodeOf_34 : decode cX7_startCodeOf 34 = .ok (.ireturn, 1) := by decide +kernel
theorem dX7_meetSeams_0 : decode cX7_meetSeams 0 = .ok (.iconst 0, 1) := by decide +kernel
theorem dX7_meetSeams_1 : decode cX7_meetSeams 1 = .ok (.istore_n 3, 1) := by decide +kernel
theorem dX7_meetSeams_2 : decode cX7_meetSeams 2 = .ok (.iconst 0, 1) := by decide +kernel
theorem dX7_meetSeams_3 : decode cX7_meetSeams 3 = .ok (.istore 4, 2) := by decide +kernel
theorem dX7_meetSeams_5 : decode cX7_meetSeams 5 = .ok (.iload 4, 2) := by decide +kernel
theorem dX7_meetSeams_7 : decode cX7_meetSeams 7 = .ok (.iconst 5, 1) := by decide +kernel
theorem dX7_meetSeams_8 : decode cX7_meetSeams 8 = .ok (.if_icmp .ge 59, 3) := by decide +kernel
theorem dX7_meetSeams_11 : decode cX7_meetSeams 11 = .ok (.iload 4, 2) := by decide +kernel
theorem dX7_meetSeams_13 : decode cX7_meetSeams 13 = .ok (.iload_n 1, 1) := by decide +kernel
theorem dX7_meetSeams_14 : decode cX7_meetSeams 14 = .ok (.invokestatic 74, 3) := by decide +kernel
theorem dX7_meetSeams_17 : decode cX7_meetSeams 17 = .ok (.istore 5, 2) := by decide +kernel
theorem dX7_meetSeams_19 : decode cX7_meetSeams 19 = .ok (.iload 5, 2) := by decide +kernel
theorem dX7_meetSeams_21 : decode cX7_meetSeams 21 = .ok (.iconst (-1), 1) := by decide +kernel
theorem dX7_meetSeams_22 : decode cX7_meetSeams 22 = .ok (.if_icmp .eq 39, 3) := by decide +kernel
theorem dX7_meetSeams_25 : decode cX7_meetSeams 25 = .ok (.iload_n 2, 1) := by decide +kernel
theorem dX7_meetSeams_26 : decode cX7_meetSeams 26 = .ok (.iload 5, 2) := by decide +kernel
theorem dX7_meetSeams_28 : decode cX7_meetSeams 28 = .ok (.ishr, 1) := by decide +kernel
theorem dX7_meetSeams_29 : decode cX7_meetSeams 29 = .ok (.iconst 1, 1) := by decide +kernel
theorem dX7_meetSeams_30 : decode cX7_meetSeams 30 = .ok (.iand, 1) := by decide +kernel
theorem dX7_meetSeams_31 : decode cX7_meetSeams 31 = .ok (.iconst 1, 1) := by decide +kernel
theorem dX7_meetSeams_32 : decode cX7_meetSeams 32 = .ok (.if_icmp .ne 29, 3) := by decide +kernel
theorem dX7_meetSeams_35 : decode cX7_meetSeams 35 = .ok (.aload_n 0, 1) := by decide +kernel
theorem dX7_meetSeams_36 : decode cX7_meetSeams 36 = .ok (.getfield 25, 3) := by decide +kernel
theorem dX7_meetSeams_39 : decode cX7_meetSeams 39 = .ok (.iload 4, 2) := by decide +kernel
theorem dX7_meetSeams_41 : decode cX7_meetSeams 41 = .ok (.aload_n 0, 1) := by decide +kernel
theorem dX7_meetSeams_42 : decode cX7_meetSeams 42 = .ok (.iload 4, 2) := by decide +kernel
theorem dX7_meetSeams_44 : decode cX7_meetSeams 44 = .ok (.invokevirtual 77, 3) := by decide +kernel
theorem dX7_meetSeams_47 : decode cX7_meetSeams 47 = .ok (.iastore, 1) := by decide +kernel
theorem dX7_meetSeams_48 : decode cX7_meetSeams 48 = .ok (.iload_n 3, 1) := by decide +kernel
theorem dX7_meetSeams_49 : decode cX7_meetSeams 49 = .ok (.aload_n 0, 1) := by decide +kernel
theorem dX7_meetSeams_50 : decode cX7_meetSeams 50 = .ok (.getfield 25, 3) := by decide +kernel
theorem dX7_meetSeams_53 : decode cX7_meetSeams 53 = .ok (.iload 4, 2) := by decide +kernel
theorem dX7_meetSeams_55 : decode cX7_meetSeams 55 = .ok (.iaload, 1) := by decide +kernel
theorem dX7_meetSeams_56 : decode cX7_meetSeams 56 = .ok (.bipush 24, 2) := by decide +kernel
theorem dX7_meetSeams_58 : decode cX7_meetSeams 58 = .ok (.ishr, 1) := by decide +kernel
theorem dX7_meetSeams_59 : decode cX7_meetSeams 59 = .ok (.iadd, 1) := by decide +kernel
theorem dX7_meetSeams_60 : decode cX7_meetSeams 60 = .ok (.istore_n 3, 1) := by decide +kernel
theorem dX7_meetSeams_61 : decode cX7_meetSeams 61 = .ok (.iinc 4 1, 3) := by decide +kernel
theorem dX7_meetSeams_64 : decode cX7_meetSeams 64 = .ok (.goto (-59), 3) := by decide +kernel
theorem dX7_meetSeams_67 : decode cX7_meetSeams 67 = .ok (.iload_n 3, 1) := by decide +kernel
theorem dX7_meetSeams_68 : decode cX7_meetSeams 68 = .ok (.ireturn, 1) := by decide +kernel
theorem dX7_otherOf_0 : decode cX7_otherOf 0 = .ok (.iload_n 1, 1) := by decide +kernel
theorem dX7_otherOf_1 : decode cX7_otherOf 1 = .ok (.iload_n 0, 1) := by decide +kernel
theorem dX7_otherOf_2 : decode cX7_otherOf 2 = .ok (.iconst 1, 1) := by decide +kernel
theorem dX7_otherOf_3 : decode cX7_otherOf 3 = .ok (.iadd, 1) := by decide +kernel
theorem dX7_otherOf_4 : decode cX7_otherOf 4 = .ok (.if_icmp .ne 9, 3) := by decide +kernel
theorem dX7_otherOf_7 : decode cX7_otherOf 7 = .ok (.getstatic 80, 3) := by decide +kernel
theorem dX7_otherOf_10 : decode cX7_otherOf 10 = .ok (.iload_n 0, 1) := by decide +kernel
theorem dX7_otherOf_11 : decode cX7_otherOf 11 = .ok (.iaload, 1) := by decide +kernel
theorem dX7_otherOf_12 : decode cX7_otherOf 12 = .ok (.ireturn, 1) := by decide +kernel
theorem dX7_otherOf_13 : decode cX7_otherOf 13 = .ok (.iload_n 1, 1) := by decide +kernel
theorem dX7_otherOf_14 : decode cX7_otherOf 14 = .ok (.getstatic 80, 3) := by decide +kernel
theorem dX7_otherOf_17 : decode cX7_otherOf 17 = .ok (.iload_n 0, 1) := by decide +kernel
theorem dX7_otherOf_18 : decode cX7_otherOf 18 = .ok (.iaload, 1) := by decide +kernel
theorem dX7_otherOf_19 : decode cX7_otherOf 19 = .ok (.if_icmp .ne 9, 3) := by decide +kernel
theorem dX7_otherOf_22 : decode cX7_otherOf 22 = .ok (.iload_n 0, 1) := by decide +kernel
theorem dX7_otherOf_23 : decode cX7_otherOf 23 = .ok (.iconst 1, 1) := by decide +kernel
theorem dX7_otherOf_24 : decode cX7_otherOf 24 = .ok (.iadd, 1) := by decide +kernel
theorem dX7_otherOf_25 : decode cX7_otherOf 25 = .ok (.goto 4, 3) := by decide +kernel
theorem dX7_otherOf_28 : decode cX7_otherOf 28 = .ok (.iconst (-1), 1) := by decide +kernel
theorem dX7_otherOf_29 : decode cX7_otherOf 29 = .ok (.ireturn, 1) := by decide +kernel
theorem dX7_missesOf_0 : decode cX7_missesOf 0 = .ok (.aload_n 0, 1) := by decide +kernel
theorem dX7_missesOf_1 : decode cX7_missesOf 1 = .ok (.getfield 22, 3) := by decide +kernel
theorem dX7_missesOf_4 : decode cX7_missesOf 4 = .ok (.iload_n 1, 1) := by decide +kernel
theorem dX7_missesOf_5 : decode cX7_missesOf 5 = .ok (.iconst 1, 1) := by decide +kernel
theorem dX7_missesOf_6 : decode cX7_missesOf 6 = .ok (.iadd, 1) := by decide +kernel
theorem dX7_missesOf_7 : decode cX7_missesOf 7 = .ok (.iaload, 1) := by decide +kernel
theorem dX7_missesOf_8 : decode cX7_missesOf 8 = .ok (.istore_n 2, 1) := by decide +kernel
theorem dX7_missesOf_9 : decode cX7_missesOf 9 = .ok (.aload_n 0, 1) := by decide +kernel
theorem dX7_missesOf_10 : decode cX7_missesOf 10 = .ok (.getfield 22, 3) := by decide +kernel
theorem dX7_missesOf_13 : decode cX7_missesOf 13 = .ok (.getstatic 80, 3) := by decide +kernel
theorem dX7_missesOf_16 : decode cX7_missesOf 16 = .ok (.iload_n 1, 1) := by decide +kernel
theorem dX7_missesOf_17 : decode cX7_missesOf 17 = .ok (.iaload, 1) := by decide +kernel
theorem dX7_missesOf_18 : decode cX7_missesOf 18 = .ok (.iaload, 1) := by decide +kernel
theorem dX7_missesOf_19 : decode cX7_missesOf 19 = .ok (.istore_n 3, 1) := by decide +kernel
theorem dX7_missesOf_20 : decode cX7_missesOf 20 = .ok (.getstatic 83, 3) := by decide +kernel
theorem dX7_missesOf_23 : decode cX7_missesOf 23 = .ok (.iload_n 1, 1) := by decide +kernel
theorem dX7_missesOf_24 : decode cX7_missesOf 24 = .ok (.iaload, 1) := by decide +kernel
theorem dX7_missesOf_25 : decode cX7_missesOf 25 = .ok (.bipush 36, 2) := by decide +kernel
theorem dX7_missesOf_27 : decode cX7_missesOf 27 = .ok (.imul, 1) := by decide +kernel
theorem dX7_missesOf_28 : decode cX7_missesOf 28 = .ok (.iload_n 2, 1) := by decide +kernel
theorem dX7_missesOf_29 : decode cX7_missesOf 29 = .ok (.iadd, 1) := by decide +kernel
theorem dX7_missesOf_30 : decode cX7_missesOf 30 = .ok (.bipush 36, 2) := by decide +kernel
theorem dX7_missesOf_32 : decode cX7_missesOf 32 = .ok (.imul, 1) := by decide +kernel
theorem dX7_missesOf_33 : decode cX7_missesOf 33 = .ok (.iload_n 3, 1) := by decide +kernel
theorem dX7_missesOf_34 : decode cX7_missesOf 34 = .ok (.iadd, 1) := by decide +kernel
theorem dX7_missesOf_35 : decode cX7_missesOf 35 = .ok (.istore 4, 2) := by decide +kernel
theorem dX7_missesOf_37 : decode cX7_missesOf 37 = .ok (.iload 4, 2) := by decide +kernel
theorem dX7_missesOf_39 : decode cX7_missesOf 39 = .ok (.ifCond .lt 13, 3) := by decide +kernel
theorem dX7_missesOf_42 : decode cX7_missesOf 42 = .ok (.iload 4, 2) := by decide +kernel
theorem dX7_missesOf_44 : decode cX7_missesOf 44 = .ok (.aload_n 0, 1) := by decide +kernel
theorem dX7_missesOf_45 : decode cX7_missesOf 45 = .ok (.getfield 18, 3) := by decide +kernel
theorem dX7_missesOf_48 : decode cX7_missesOf 48 = .ok (.arraylength, 1) := by decide +kernel
theorem dX7_missesOf_49 : decode cX7_missesOf 49 = .ok (.if_icmp .lt 9, 3) := by decide +kernel
theorem dX7_missesOf_52 : decode cX7_missesOf 52 = .ok (.aload_n 0, 1) := by decide +kernel
theorem dX7_missesOf_53 : decode cX7_missesOf 53 = .ok (.iload_n 1, 1) := by decide +kernel
theorem dX7_missesOf_54 : decode cX7_missesOf 54 = .ok (.invokevirtual 86, 3) := by decide +kernel
theorem dX7_missesOf_57 : decode cX7_missesOf 57 = .ok (.ireturn, 1) := by decide +kernel
theorem dX7_missesOf_58 : decode cX7_missesOf 58 = .ok (.aload_n 0, 1) := by decide +kernel
theorem dX7_missesOf_59 : decode cX7_missesOf 59 = .ok (.getfield 18, 3) := by decide +kernel
theorem dX7_missesOf_62 : decode cX7_missesOf 62 = .ok (.iload 4, 2) := by decide +kernel
theorem dX7_missesOf_64 : decode cX7_missesOf 64 = .ok (.iaload, 1) := by decide +kernel
theorem dX7_missesOf_65 : decode cX7_missesOf 65 = .ok (.iconst (-1), 1) := by decide +kernel
theorem dX7_missesOf_66 : decode cX7_missesOf 66 = .ok (.if_icmp .ne 15, 3) := by decide +kernel
theorem dX7_missesOf_69 : decode cX7_missesOf 69 = .ok (.aload_n 0, 1) := by decide +kernel
theorem dX7_missesOf_70 : decode cX7_missesOf 70 = .ok (.getfield 18, 3) := by decide +kernel
theorem dX7_missesOf_73 : decode cX7_missesOf 73 = .ok (.iload 4, 2) := by decide +kernel
theorem dX7_missesOf_75 : decode cX7_missesOf 75 = .ok (.aload_n 0, 1) := by decide +kernel
theorem dX7_missesOf_76 : decode cX7_missesOf 76 = .ok (.iload_n 1, 1) := by decide +kernel
theorem dX7_missesOf_77 : decode cX7_missesOf 77 = .ok (.invokevirtual 86, 3) := by decide +kernel
theorem dX7_missesOf_80 : decode cX7_missesOf 80 = .ok (.iastore, 1) := by decide +kernel
theorem dX7_missesOf_81 : decode cX7_missesOf 81 = .ok (.aload_n 0, 1) := by decide +kernel
theorem dX7_missesOf_82 : decode cX7_missesOf 82 = .ok (.getfield 18, 3) := by decide +kernel
theorem dX7_missesOf_85 : decode cX7_missesOf 85 = .ok (.iload 4, 2) := by decide +kernel
theorem dX7_missesOf_87 : decode cX7_missesOf 87 = .ok (.iaload, 1) := by decide +kernel
theorem dX7_missesOf_88 : decode cX7_missesOf 88 = .ok (.ireturn, 1) := by decide +kernel
theorem dX7_countMisses_0 : decode cX7_countMisses 0 = .ok (.bipush 63, 2) := by decide +kernel
theorem dX7_countMisses_2 : decode cX7_countMisses 2 = .ok (.istore_n 2, 1) := by decide +kernel
theorem dX7_countMisses_3 : decode cX7_countMisses 3 = .ok (.iconst 0, 1) := by decide +kernel
theorem dX7_countMisses_4 : decode cX7_countMisses 4 = .ok (.istore_n 3, 1) := by decide +kernel
theorem dX7_countMisses_5 : decode cX7_countMisses 5 = .ok (.iconst 0, 1) := by decide +kernel
theorem dX7_countMisses_6 : decode cX7_countMisses 6 = .ok (.istore 4, 2) := by decide +kernel
theorem dX7_countMisses_8 : decode cX7_countMisses 8 = .ok (.iload 4, 2) := by decide +kernel
theorem dX7_countMisses_10 : decode cX7_countMisses 10 = .ok (.iconst 4, 1) := by decide +kernel
theorem dX7_countMisses_11 : decode cX7_countMisses 11 = .ok (.if_icmp .ge 45, 3) := by decide +kernel
theorem dX7_countMisses_14 : decode cX7_countMisses 14 = .ok (.aload_n 0, 1) := by decide +kernel
theorem dX7_countMisses_15 : decode cX7_countMisses 15 = .ok (.getfield 12, 3) := by decide +kernel
theorem dX7_countMisses_18 : decode cX7_countMisses 18 = .ok (.iload_n 1, 1) := by decide +kernel
theorem dX7_countMisses_19 : decode cX7_countMisses 19 = .ok (.iload 4, 2) := by decide +kernel
theorem dX7_countMisses_21 : decode cX7_countMisses 21 = .ok (.iconst 1, 1) := by decide +kernel
theorem dX7_countMisses_22 : decode cX7_countMisses 22 = .ok (.iand, 1) := by decide +kernel
theorem dX7_countMisses_23 : decode cX7_countMisses 23 = .ok (.iload 4, 2) := by decide +kernel
theorem dX7_countMisses_25 : decode cX7_countMisses 25 = .ok (.iconst 1, 1) := by decide +kernel
theorem dX7_countMisses_26 : decode cX7_countMisses 26 = .ok (.ishr, 1) := by decide +kernel
theorem dX7_countMisses_27 : decode cX7_countMisses 27 = .ok (.invokevirtual 89, 3) := by decide +kernel
theorem dX7_countMisses_30 : decode cX7_countMisses 30 = .ok (.istore 5, 2) := by decide +kernel
theorem dX7_countMisses_32 : decode cX7_countMisses 32 = .ok (.iload_n 2, 1) := by decide +kernel
theorem dX7_countMisses_33 : decode cX7_countMisses 33 = .ok (.iload 5, 2) := by decide +kernel
theorem dX7_countMisses_35 : decode cX7_countMisses 35 = .ok (.invokestatic 93, 3) := by decide +kernel
theorem dX7_countMisses_38 : decode cX7_countMisses 38 = .ok (.istore_n 2, 1) := by decide +kernel
theorem dX7_countMisses_39 : decode cX7_countMisses 39 = .ok (.iload_n 3, 1) := by decide +kernel
theorem dX7_countMisses_40 : decode cX7_countMisses 40 = .ok (.iload 5, 2) := by decide +kernel
theorem dX7_countMisses_42 : decode cX7_countMisses 42 = .ok (.bipush 6, 2) := by decide +kernel
theorem dX7_countMisses_44 : decode cX7_countMisses 44 = .ok (.iload 4, 2) := by decide +kernel
theorem dX7_countMisses_46 : decode cX7_countMisses 46 = .ok (.imul, 1) := by decide +kernel
theorem dX7_countMisses_47 : decode cX7_countMisses 47 = .ok (.ishl, 1) := by decide +kernel
theorem dX7_countMisses_48 : decode cX7_countMisses 48 = .ok (.ior, 1) := by decide +kernel
theorem dX7_countMisses_49 : decode cX7_countMisses 49 = .ok (.istore_n 3, 1) := by decide +kernel
theorem dX7_countMisses_50 : decode cX7_countMisses 50 = .ok (.iinc 4 1, 3) := by decide +kernel
theorem dX7_countMisses_53 : decode cX7_countMisses 53 = .ok (.goto (-45), 3) := by decide +kernel
theorem dX7_countMisses_56 : decode cX7_countMisses 56 = .ok (.iload_n 2, 1) := by decide +kernel
theorem dX7_countMisses_57 : decode cX7_countMisses 57 = .ok (.bipush 24, 2) := by decide +kernel
theorem dX7_countMisses_59 : decode cX7_countMisses 59 = .ok (.ishl, 1) := by decide +kernel
theorem dX7_countMisses_60 : decode cX7_countMisses 60 = .ok (.iload_n 3, 1) := by decide +kernel
theorem dX7_countMisses_61 : decode cX7_countMisses 61 = .ok (.ior, 1) := by decide +kernel
theorem dX7_countMisses_62 : decode cX7_countMisses 62 = .ok (.ireturn, 1) := by decide +kernel
theorem dX7_missWay_0 : decode cX7_missWay 0 = .ok (.iload_n 0, 1) := by decide +kernel
theorem dX7_missWay_1 : decode cX7_missWay 1 = .ok (.bipush 6, 2) := by decide +kernel
theorem dX7_missWay_3 : decode cX7_missWay 3 = .ok (.iload_n 1, 1) := by decide +kernel
theorem dX7_missWay_4 : decode cX7_missWay 4 = .ok (.iconst 2, 1) := by decide +kernel
theorem dX7_missWay_5 : decode cX7_missWay 5 = .ok (.iload_n 2, 1) := by decide +kernel
theorem dX7_missWay_6 : decode cX7_missWay 6 = .ok (.imul, 1) := by decide +kernel
theorem dX7_missWay_7 : decode cX7_missWay 7 = .ok (.iadd, 1) := by decide +kernel
theorem dX7_missWay_8 : decode cX7_missWay 8 = .ok (.imul, 1) := by decide +kernel
theorem dX7_missWay_9 : decode cX7_missWay 9 = .ok (.ishr, 1) := by decide +kernel
theorem dX7_missWay_10 : decode cX7_missWay 10 = .ok (.bipush 63, 2) := by decide +kernel
theorem dX7_missWay_12 : decode cX7_missWay 12 = .ok (.iand, 1) := by decide +kernel
theorem dX7_missWay_13 : decode cX7_missWay 13 = .ok (.ireturn, 1) := by decide +kernel
theorem dX7_weigh_0 : decode cX7_weigh 0 = .ok (.aload_n 0, 1) := by decide +kernel
theorem dX7_weigh_1 : decode cX7_weigh 1 = .ok (.invokevirtual 98, 3) := by decide +kernel
theorem dX7_weigh_4 : decode cX7_weigh 4 = .ok (.istore_n 3, 1) := by decide +kernel
theorem dX7_weigh_5 : decode cX7_weigh 5 = .ok (.iconst 5, 1) := by decide +kernel
theorem dX7_weigh_6 : decode cX7_weigh 6 = .ok (.iload_n 2, 1) := by decide +kernel
theorem dX7_weigh_7 : decode cX7_weigh 7 = .ok (.imul, 1) := by decide +kernel
theorem dX7_weigh_8 : decode cX7_weigh 8 = .ok (.iload_n 3, 1) := by decide +kernel
theorem dX7_weigh_9 : decode cX7_weigh 9 = .ok (.sipush 512, 3) := by decide +kernel
theorem dX7_weigh_12 : decode cX7_weigh 12 = .ok (.idiv, 1) := by decide +kernel
theorem dX7_weigh_13 : decode cX7_weigh 13 = .ok (.iadd, 1) := by decide +kernel
theorem dX7_weigh_14 : decode cX7_weigh 14 = .ok (.istore 4, 2) := by decide +kernel
theorem dX7_weigh_16 : decode cX7_weigh 16 = .ok (.iload 4, 2) := by decide +kernel
theorem dX7_weigh_18 : decode cX7_weigh 18 = .ok (.aload_n 0, 1) := by decide +kernel
theorem dX7_weigh_19 : decode cX7_weigh 19 = .ok (.getfield 39, 3) := by decide +kernel
theorem dX7_weigh_22 : decode cX7_weigh 22 = .ok (.if_icmp .ge 22, 3) := by decide +kernel
theorem dX7_weigh_25 : decode cX7_weigh 25 = .ok (.aload_n 0, 1) := by decide +kernel
theorem dX7_weigh_26 : decode cX7_weigh 26 = .ok (.iload 4, 2) := by decide +kernel
theorem dX7_weigh_28 : decode cX7_weigh 28 = .ok (.putfield 39, 3) := by decide +kernel
theorem dX7_weigh_31 : decode cX7_weigh 31 = .ok (.aload_n 0, 1) := by decide +kernel
theorem dX7_weigh_32 : decode cX7_weigh 32 = .ok (.iload_n 1, 1) := by decide +kernel
theorem dX7_weigh_33 : decode cX7_weigh 33 = .ok (.putfield 102, 3) := by decide +kernel
theorem dX7_weigh_36 : decode cX7_weigh 36 = .ok (.aload_n 0, 1) := by decide +kernel
theorem dX7_weigh_37 : decode cX7_weigh 37 = .ok (.iload_n 3, 1) := by decide +kernel
theorem dX7_weigh_38 : decode cX7_weigh 38 = .ok (.bipush 63, 2) := by decide +kernel
theorem dX7_weigh_40 : decode cX7_weigh 40 = .ok (.iand, 1) := by decide +kernel
theorem dX7_weigh_41 : decode cX7_weigh 41 = .ok (.putfield 105, 3) := by decide +kernel
theorem dX7_weigh_44 : decode cX7_weigh 44 = .ok (.return_, 1) := by decide +kernel
theorem dX7_leastKey_0 : decode cX7_leastKey 0 = .ok (.iconst 0, 1) := by decide +kernel
theorem dX7_leastKey_1 : decode cX7_leastKey 1 = .ok (.istore_n 1, 1) := by decide +kernel
theorem dX7_leastKey_2 : decode cX7_leastKey 2 = .ok (.iload_n 1, 1) := by decide +kernel
theorem dX7_leastKey_3 : decode cX7_leastKey 3 = .ok (.bipush 6, 2) := by decide +kernel
theorem dX7_leastKey_5 : decode cX7_leastKey 5 = .ok (.if_icmp .ge 28, 3) := by decide +kernel
theorem dX7_leastKey_8 : decode cX7_leastKey 8 = .ok (.aload_n 0, 1) := by decide +kernel
theorem dX7_leastKey_9 : decode cX7_leastKey 9 = .ok (.getfield 28, 3) := by decide +kernel
theorem dX7_leastKey_12 : decode cX7_leastKey 12 = .ok (.iload_n 1, 1) := by decide +kernel
theorem dX7_leastKey_13 : decode cX7_leastKey 13 = .ok (.iconst 0, 1) := by decide +kernel
theorem dX7_leastKey_14 : decode cX7_leastKey 14 = .ok (.iastore, 1) := by decide +kernel
theorem dX7_leastKey_15 : decode cX7_leastKey 15 = .ok (.aload_n 0, 1) := by decide +kernel
theorem dX7_leastKey_16 : decode cX7_leastKey 16 = .ok (.getfield 31, 3) := by decide +kernel
theorem dX7_leastKey_19 : decode cX7_leastKey 19 = .ok (.iload_n 1, 1) := by decide +kernel
theorem dX7_leastKey_20 : decode cX7_leastKey 20 = .ok (.bipush 64, 2) := by decide +kernel
theorem dX7_leastKey_22 : decode cX7_leastKey 22 = .ok (.iconst 1, 1) := by decide +kernel
theorem dX7_leastKey_23 : decode cX7_leastKey 23 = .ok (.iload_n 1, 1) := by decide +kernel
theorem dX7_leastKey_24 : decode cX7_leastKey 24 = .ok (.ishl, 1) := by decide +kernel
theorem dX7_leastKey_25 : decode cX7_leastKey 25 = .ok (.iadd, 1) := by decide +kernel
theorem dX7_leastKey_26 : decode cX7_leastKey 26 = .ok (.iastore, 1) := by decide +kernel
theorem dX7_leastKey_27 : decode cX7_leastKey 27 = .ok (.iinc 1 1, 3) := by decide +kernel
theorem dX7_leastKey_30 : decode cX7_leastKey 30 = .ok (.goto (-28), 3) := by decide +kernel
theorem dX7_leastKey_33 : decode cX7_leastKey 33 = .ok (.iconst 5, 1) := by decide +kernel
theorem dX7_leastKey_34 : decode cX7_leastKey 34 = .ok (.istore_n 1, 1) := by decide +kernel
theorem dX7_leastKey_35 : decode cX7_leastKey 35 = .ok (.iload_n 1, 1) := by decide +kernel
theorem dX7_leastKey_36 : decode cX7_leastKey 36 = .ok (.ifCond .le 47, 3) := by decide +kernel
theorem dX7_leastKey_39 : decode cX7_leastKey 39 = .ok (.getstatic 80, 3) := by decide +kernel
theorem dX7_leastKey_42 : decode cX7_leastKey 42 = .ok (.iload_n 1, 1) := by decide +kernel
theorem dX7_leastKey_43 : decode cX7_leastKey 43 = .ok (.iconst 1, 1) := by decide +kernel
theorem dX7_leastKey_44 : decode cX7_leastKey 44 = .ok (.isub, 1) := by decide +kernel
theorem dX7_leastKey_45 : decode cX7_leastKey 45 = .ok (.iaload, 1) := by decide +kernel
theorem dX7_leastKey_46 : decode cX7_leastKey 46 = .ok (.istore_n 2, 1) := by decide +kernel
theorem dX7_leastKey_47 : decode cX7_leastKey 47 = .ok (.aload_n 0, 1) := by decide +kernel
theorem dX7_leastKey_48 : decode cX7_leastKey 48 = .ok (.getfield 28, 3) := by decide +kernel
theorem dX7_leastKey_51 : decode cX7_leastKey 51 = .ok (.iload_n 2, 1) := by decide +kernel
theorem dX7_leastKey_52 : decode cX7_leastKey 52 = .ok (.dup2, 1) := by decide +kernel
theorem dX7_leastKey_53 : decode cX7_leastKey 53 = .ok (.iaload, 1) := by decide +kernel
theorem dX7_leastKey_54 : decode cX7_leastKey 54 = .ok (.aload_n 0, 1) := by decide +kernel
theorem dX7_leastKey_55 : decode cX7_leastKey 55 = .ok (.iload_n 1, 1) := by decide +kernel
theorem dX7_leastKey_56 : decode cX7_leastKey 56 = .ok (.iconst 0, 1) := by decide +kernel
theorem dX7_leastKey_57 : decode cX7_leastKey 57 = .ok (.invokevirtual 108, 3) := by decide +kernel
theorem dX7_leastKey_60 : decode cX7_leastKey 60 = .ok (.iadd, 1) := by decide +kernel
theorem dX7_leastKey_61 : decode cX7_leastKey 61 = .ok (.iastore, 1) := by decide +kernel
theorem dX7_leastKey_62 : decode cX7_leastKey 62 = .ok (.aload_n 0, 1) := by decide +kernel
theorem dX7_leastKey_63 : decode cX7_leastKey 63 = .ok (.getfield 31, 3) := by decide +kernel
theorem dX7_leastKey_66 : decode cX7_leastKey 66 = .ok (.iload_n 2, 1) := by decide +kernel
theorem dX7_leastKey_67 : decode cX7_leastKey 67 = .ok (.dup2, 1) := by decide +kernel
theorem dX7_leastKey_68 : decode cX7_leastKey 68 = .ok (.iaload, 1) := by decide +kernel
theorem dX7_leastKey_69 : decode cX7_leastKey 69 = .ok (.aload_n 0, 1) := by decide +kernel
theorem dX7_leastKey_70 : decode cX7_leastKey 70 = .ok (.iload_n 1, 1) := by decide +kernel
theorem dX7_leastKey_71 : decode cX7_leastKey 71 = .ok (.iconst 1, 1) := by decide +kernel
theorem dX7_leastKey_72 : decode cX7_leastKey 72 = .ok (.invokevirtual 108, 3) := by decide +kernel
theorem dX7_leastKey_75 : decode cX7_leastKey 75 = .ok (.iadd, 1) := by decide +kernel
theorem dX7_leastKey_76 : decode cX7_leastKey 76 = .ok (.iastore, 1) := by decide +kernel
theorem dX7_leastKey_77 : decode cX7_leastKey 77 = .ok (.iinc 1 (-1), 3) := by decide +kernel
theorem dX7_leastKey_80 : decode cX7_leastKey 80 = .ok (.goto (-45), 3) := by decide +kernel
theorem dX7_leastKey_83 : decode cX7_leastKey 83 = .ok (.aload_n 0, 1) := by decide +kernel
theorem dX7_leastKey_84 : decode cX7_leastKey 84 = .ok (.getfield 28, 3) := by decide +kernel
theorem dX7_leastKey_87 : decode cX7_leastKey 87 = .ok (.iconst 0, 1) := by decide +kernel
theorem dX7_leastKey_88 : decode cX7_leastKey 88 = .ok (.iaload, 1) := by decide +kernel
theorem dX7_leastKey_89 : decode cX7_leastKey 89 = .ok (.aload_n 0, 1) := by decide +kernel
theorem dX7_leastKey_90 : decode cX7_leastKey 90 = .ok (.getfield 31, 3) := by decide +kernel
theorem dX7_leastKey_93 : decode cX7_leastKey 93 = .ok (.iconst 0, 1) := by decide +kernel
theorem dX7_leastKey_94 : decode cX7_leastKey 94 = .ok (.iaload, 1) := by decide +kernel
theorem dX7_leastKey_95 : decode cX7_leastKey 95 = .ok (.invokestatic 93, 3) := by decide +kernel
theorem dX7_leastKey_98 : decode cX7_leastKey 98 = .ok (.ireturn, 1) := by decide +kernel
theorem dX7_keyOf_0 : decode cX7_keyOf 0 = .ok (.aload_n 0, 1) := by decide +kernel
theorem dX7_keyOf_1 : decode cX7_keyOf 1 = .ok (.getfield 25, 3) := by decide +kernel
theorem dX7_keyOf_4 : decode cX7_keyOf 4 = .ok (.iload_n 1, 1) := by decide +kernel
theorem dX7_keyOf_5 : decode cX7_keyOf 5 = .ok (.iconst 1, 1) := by decide +kernel
theorem dX7_keyOf_6 : decode cX7_keyOf 6 = .ok (.isub, 1) := by decide +kernel
theorem dX7_keyOf_7 : decode cX7_keyOf 7 = .ok (.iaload, 1) := by decide +kernel
theorem dX7_keyOf_8 : decode cX7_keyOf 8 = .ok (.istore_n 3, 1) := by decide +kernel
theorem dX7_keyOf_9 : decode cX7_keyOf 9 = .ok (.sipush 512, 3) := by decide +kernel
theorem dX7_keyOf_12 : decode cX7_keyOf 12 = .ok (.iload_n 3, 1) := by decide +kernel
theorem dX7_keyOf_13 : decode cX7_keyOf 13 = .ok (.iconst 0, 1) := by decide +kernel
theorem dX7_keyOf_14 : decode cX7_keyOf 14 = .ok (.iload_n 2, 1) := by decide +kernel
theorem dX7_keyOf_15 : decode cX7_keyOf 15 = .ok (.invokestatic 111, 3) := by decide +kernel
theorem dX7_keyOf_18 : decode cX7_keyOf 18 = .ok (.imul, 1) := by decide +kernel
theorem dX7_keyOf_19 : decode cX7_keyOf 19 = .ok (.aload_n 0, 1) := by decide +kernel
theorem dX7_keyOf_20 : decode cX7_keyOf 20 = .ok (.getfield 28, 3) := by decide +kernel
theorem dX7_keyOf_23 : decode cX7_keyOf 23 = .ok (.iload_n 1, 1) := by decide +kernel
theorem dX7_keyOf_24 : decode cX7_keyOf 24 = .ok (.iaload, 1) := by decide +kernel
theorem dX7_keyOf_25 : decode cX7_keyOf 25 = .ok (.iadd, 1) := by decide +kernel
theorem dX7_keyOf_26 : decode cX7_keyOf 26 = .ok (.istore 4, 2) := by decide +kernel
theorem dX7_keyOf_28 : decode cX7_keyOf 28 = .ok (.sipush 512, 3) := by decide +kernel
theorem dX7_keyOf_31 : decode cX7_keyOf 31 = .ok (.iload_n 3, 1) := by decide +kernel
theorem dX7_keyOf_32 : decode cX7_keyOf 32 = .ok (.iconst 1, 1) := by decide +kernel
theorem dX7_keyOf_33 : decode cX7_keyOf 33 = .ok (.iload_n 2, 1) := by decide +kernel
theorem dX7_keyOf_34 : decode cX7_keyOf 34 = .ok (.invokestatic 111, 3) := by decide +kernel
theorem dX7_keyOf_37 : decode cX7_keyOf 37 = .ok (.imul, 1) := by decide +kernel
theorem dX7_keyOf_38 : decode cX7_keyOf 38 = .ok (.aload_n 0, 1) := by decide +kernel
theorem dX7_keyOf_39 : decode cX7_keyOf 39 = .ok (.getfield 31, 3) := by decide +kernel
theorem dX7_keyOf_42 : decode cX7_keyOf 42 = .ok (.iload_n 1, 1) := by decide +kernel
theorem dX7_keyOf_43 : decode cX7_keyOf 43 = .ok (.iaload, 1) := by decide +kernel
theorem dX7_keyOf_44 : decode cX7_keyOf 44 = .ok (.iadd, 1) := by decide +kernel
theorem dX7_keyOf_45 : decode cX7_keyOf 45 = .ok (.istore 5, 2) := by decide +kernel
theorem dX7_keyOf_47 : decode cX7_keyOf 47 = .ok (.aload_n 0, 1) := by decide +kernel
theorem dX7_keyOf_48 : decode cX7_keyOf 48 = .ok (.getfield 34, 3) := by decide +kernel
theorem dX7_keyOf_51 : decode cX7_keyOf 51 = .ok (.ifCond .eq 15, 3) := by decide +kernel
theorem dX7_keyOf_54 : decode cX7_keyOf 54 = .ok (.iload_n 2, 1) := by decide +kernel
theorem dX7_keyOf_55 : decode cX7_keyOf 55 = .ok (.ifCond .ne 8, 3) := by decide +kernel
theorem dX7_keyOf_58 : decode cX7_keyOf 58 = .ok (.iload 4, 2) := by decide +kernel
theorem dX7_keyOf_60 : decode cX7_keyOf 60 = .ok (.goto 5, 3) := by decide +kernel
theorem dX7_keyOf_63 : decode cX7_keyOf 63 = .ok (.iload 5, 2) := by decide +kernel
theorem dX7_keyOf_65 : decode cX7_keyOf 65 = .ok (.ireturn, 1) := by decide +kernel
theorem dX7_keyOf_66 : decode cX7_keyOf 66 = .ok (.iload 4, 2) := by decide +kernel
theorem dX7_keyOf_68 : decode cX7_keyOf 68 = .ok (.iload 5, 2) := by decide +kernel
theorem dX7_keyOf_70 : decode cX7_keyOf 70 = .ok (.invokestatic 93, 3) := by decide +kernel
theorem dX7_keyOf_73 : decode cX7_keyOf 73 = .ok (.ireturn, 1) := by decide +kernel
