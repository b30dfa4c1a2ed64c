theorem dX9_unpick_79 : decode cX9_unpick 79 = .ok (.aload_n 0, 1) := by decide +kernel
theorem dX9_unpick_80 : decode cX9_unpick 80 = .ok (.getfield 39, 3) := by decide +kernel
theorem dX9_unpick_83 : decode cX9_unpick 83 = .ok (.aload_n 0, 1) := by decide +kernel
theorem dX9_unpick_84 : decode cX9_unpick 84 = .ok (.getfield 43, 3) := by decide +kernel
theorem dX9_unpick_87 : decode cX9_unpick 87 = .ok (.invokevirtual 149, 3) := by decide +kernel
theorem dX9_unpick_90 : decode cX9_unpick 90 = .ok (.aload_n 0, 1) := by decide +kernel
theorem dX9_unpick_91 : decode cX9_unpick 91 = .ok (.getfield 57, 3) := by decide +kernel
theorem dX9_unpick_94 : decode cX9_unpick 94 = .ok (.iload_n 2, 1) := by decide +kernel
theorem dX9_unpick_95 : decode cX9_unpick 95 = .ok (.iload_n 3, 1) := by decide +kernel
theorem dX9_unpick_96 : decode cX9_unpick 96 = .ok (.invokevirtual 155, 3) := by decide +kernel
theorem dX9_unpick_99 : decode cX9_unpick 99 = .ok (.aload_n 0, 1) := by decide +kernel
theorem dX9_unpick_100 : decode cX9_unpick 100 = .ok (.getfield 31, 3) := by decide +kernel
theorem dX9_unpick_103 : decode cX9_unpick 103 = .ok (.iload_n 1, 1) := by decide +kernel
theorem dX9_unpick_104 : decode cX9_unpick 104 = .ok (.aconst_null, 1) := by decide +kernel
theorem dX9_unpick_105 : decode cX9_unpick 105 = .ok (.aastore, 1) := by decide +kernel
theorem dX9_unpick_106 : decode cX9_unpick 106 = .ok (.aload_n 0, 1) := by decide +kernel
theorem dX9_unpick_107 : decode cX9_unpick 107 = .ok (.new 23, 3) := by decide +kernel
theorem dX9_unpick_110 : decode cX9_unpick 110 = .ok (.dup, 1) := by decide +kernel
theorem dX9_unpick_111 : decode cX9_unpick 111 = .ok (.aload_n 0, 1) := by decide +kernel
theorem dX9_unpick_112 : decode cX9_unpick 112 = .ok (.getfield 57, 3) := by decide +kernel
theorem dX9_unpick_115 : decode cX9_unpick 115 = .ok (.invokevirtual 229, 3) := by decide +kernel
theorem dX9_unpick_118 : decode cX9_unpick 118 = .ok (.aload 4, 2) := by decide +kernel
theorem dX9_unpick_120 : decode cX9_unpick 120 = .ok (.getfield 194, 3) := by decide +kernel
theorem dX9_unpick_123 : decode cX9_unpick 123 = .ok (.getfield 127, 3) := by decide +kernel
theorem dX9_unpick_126 : decode cX9_unpick 126 = .ok (.aload 4, 2) := by decide +kernel
theorem dX9_unpick_128 : decode cX9_unpick 128 = .ok (.getfield 194, 3) := by decide +kernel
theorem dX9_unpick_131 : decode cX9_unpick 131 = .ok (.getfield 130, 3) := by decide +kernel
theorem dX9_unpick_134 : decode cX9_unpick 134 = .ok (.invokespecial 115, 3) := by decide +kernel
theorem dX9_unpick_137 : decode cX9_unpick 137 = .ok (.invokevirtual 118, 3) := by decide +kernel
theorem dX9_unpick_140 : decode cX9_unpick 140 = .ok (.ireturn, 1) := by decide +kernel
theorem dX9_line_0 : decode cX9_line 0 = .ok (.aload_n 0, 1) := by decide +kernel
theorem dX9_line_1 : decode cX9_line 1 = .ok (.iload_n 1, 1) := by decide +kernel
theorem dX9_line_2 : decode cX9_line 2 = .ok (.invokevirtual 190, 3) := by decide +kernel
theorem dX9_line_5 : decode cX9_line 5 = .ok (.astore_n 3, 1) := by decide +kernel
theorem dX9_line_6 : decode cX9_line 6 = .ok (.aload_n 0, 1) := by decide +kernel
theorem dX9_line_7 : decode cX9_line 7 = .ok (.iload_n 2, 1) := by decide +kernel
theorem dX9_line_8 : decode cX9_line 8 = .ok (.invokevirtual 122, 3) := by decide +kernel
theorem dX9_line_11 : decode cX9_line 11 = .ok (.astore 4, 2) := by decide +kernel
theorem dX9_line_13 : decode cX9_line 13 = .ok (.aload_n 3, 1) := by decide +kernel
theorem dX9_line_14 : decode cX9_line 14 = .ok (.ifnull 8, 3) := by decide +kernel
theorem dX9_line_17 : decode cX9_line 17 = .ok (.aload 4, 2) := by decide +kernel
theorem dX9_line_19 : decode cX9_line 19 = .ok (.ifnonnull 5, 3) := by decide +kernel
theorem dX9_line_22 : decode cX9_line 22 = .ok (.iconst (-1), 1) := by decide +kernel
theorem dX9_line_23 : decode cX9_line 23 = .ok (.ireturn, 1) := by decide +kernel
theorem dX9_line_24 : decode cX9_line 24 = .ok (.aload_n 3, 1) := by decide +kernel
theorem dX9_line_25 : decode cX9_line 25 = .ok (.getfield 194, 3) := by decide +kernel
theorem dX9_line_28 : decode cX9_line 28 = .ok (.getfield 126, 3) := by decide +kernel
theorem dX9_line_31 : decode cX9_line 31 = .ok (.arraylength, 1) := by decide +kernel
theorem dX9_line_32 : decode cX9_line 32 = .ok (.istore 5, 2) := by decide +kernel
theorem dX9_line_34 : decode cX9_line 34 = .ok (.aload 4, 2) := by decide +kernel
theorem dX9_line_36 : decode cX9_line 36 = .ok (.getfield 126, 3) := by decide +kernel
theorem dX9_line_39 : decode cX9_line 39 = .ok (.arraylength, 1) := by decide +kernel
theorem dX9_line_40 : decode cX9_line 40 = .ok (.iload 5, 2) := by decide +kernel
theorem dX9_line_42 : decode cX9_line 42 = .ok (.isub, 1) := by decide +kernel
theorem dX9_line_43 : decode cX9_line 43 = .ok (.istore 6, 2) := by decide +kernel
theorem dX9_line_45 : decode cX9_line 45 = .ok (.aload_n 3, 1) := by decide +kernel
theorem dX9_line_46 : decode cX9_line 46 = .ok (.getfield 201, 3) := by decide +kernel
theorem dX9_line_49 : decode cX9_line 49 = .ok (.ifnonnull 8, 3) := by decide +kernel
theorem dX9_line_52 : decode cX9_line 52 = .ok (.iload 6, 2) := by decide +kernel
theorem dX9_line_54 : decode cX9_line 54 = .ok (.ifCond .ge 6, 3) := by decide +kernel
theorem dX9_line_57 : decode cX9_line 57 = .ok (.bipush (-3), 2) := by decide +kernel
theorem dX9_line_59 : decode cX9_line 59 = .ok (.ireturn, 1) := by decide +kernel
theorem dX9_line_60 : decode cX9_line 60 = .ok (.iload 6, 2) := by decide +kernel
theorem dX9_line_62 : decode cX9_line 62 = .ok (.ifCond .ne 19, 3) := by decide +kernel
theorem dX9_line_65 : decode cX9_line 65 = .ok (.aload_n 3, 1) := by decide +kernel
theorem dX9_line_66 : decode cX9_line 66 = .ok (.aload 4, 2) := by decide +kernel
theorem dX9_line_68 : decode cX9_line 68 = .ok (.putfield 201, 3) := by decide +kernel
theorem dX9_line_71 : decode cX9_line 71 = .ok (.aload_n 0, 1) := by decide +kernel
theorem dX9_line_72 : decode cX9_line 72 = .ok (.getfield 25, 3) := by decide +kernel
theorem dX9_line_75 : decode cX9_line 75 = .ok (.iload_n 2, 1) := by decide +kernel
theorem dX9_line_76 : decode cX9_line 76 = .ok (.aconst_null, 1) := by decide +kernel
theorem dX9_line_77 : decode cX9_line 77 = .ok (.aastore, 1) := by decide +kernel
theorem dX9_line_78 : decode cX9_line 78 = .ok (.goto 54, 3) := by decide +kernel
theorem dX9_line_81 : decode cX9_line 81 = .ok (.aload_n 3, 1) := by decide +kernel
theorem dX9_line_82 : decode cX9_line 82 = .ok (.new 23, 3) := by decide +kernel
theorem dX9_line_85 : decode cX9_line 85 = .ok (.dup, 1) := by decide +kernel
theorem dX9_line_86 : decode cX9_line 86 = .ok (.aload 4, 2) := by decide +kernel
theorem dX9_line_88 : decode cX9_line 88 = .ok (.getfield 126, 3) := by decide +kernel
theorem dX9_line_91 : decode cX9_line 91 = .ok (.iload 5, 2) := by decide +kernel
theorem dX9_line_93 : decode cX9_line 93 = .ok (.invokestatic 109, 3) := by decide +kernel
theorem dX9_line_96 : decode cX9_line 96 = .ok (.aload 4, 2) := by decide +kernel
theorem dX9_line_98 : decode cX9_line 98 = .ok (.getfield 127, 3) := by decide +kernel
theorem dX9_line_101 : decode cX9_line 101 = .ok (.aload 4, 2) := by decide +kernel
theorem dX9_line_103 : decode cX9_line 103 = .ok (.getfield 130, 3) := by decide +kernel
theorem dX9_line_106 : decode cX9_line 106 = .ok (.invokespecial 115, 3) := by decide +kernel
theorem dX9_line_109 : decode cX9_line 109 = .ok (.putfield 201, 3) := by decide +kernel
theorem dX9_line_112 : decode cX9_line 112 = .ok (.aload 4, 2) := by decide +kernel
theorem dX9_line_114 : decode cX9_line 114 = .ok (.aload 4, 2) := by decide +kernel
theorem dX9_line_116 : decode cX9_line 116 = .ok (.getfield 126, 3) := by decide +kernel
theorem dX9_line_119 : decode cX9_line 119 = .ok (.iload 5, 2) := by decide +kernel
theorem dX9_line_121 : decode cX9_line 121 = .ok (.iload 5, 2) := by decide +kernel
theorem dX9_line_123 : decode cX9_line 123 = .ok (.iload 6, 2) := by decide +kernel
theorem dX9_line_125 : decode cX9_line 125 = .ok (.iadd, 1) := by decide +kernel
theorem dX9_line_126 : decode cX9_line 126 = .ok (.invokestatic 232, 3) := by decide +kernel
theorem dX9_line_129 : decode cX9_line 129 = .ok (.putfield 126, 3) := by decide +kernel
theorem dX9_line_132 : decode cX9_line 132 = .ok (.iload 6, 2) := by decide +kernel
theorem dX9_line_134 : decode cX9_line 134 = .ok (.ireturn, 1) := by decide +kernel
theorem dX9_unline_0 : decode cX9_unline 0 = .ok (.aload_n 0, 1) := by decide +kernel
theorem dX9_unline_1 : decode cX9_unline 1 = .ok (.iload_n 1, 1) := by decide +kernel
theorem dX9_unline_2 : decode cX9_unline 2 = .ok (.invokevirtual 190, 3) := by decide +kernel
theorem dX9_unline_5 : decode cX9_unline 5 = .ok (.astore_n 2, 1) := by decide +kernel
theorem dX9_unline_6 : decode cX9_unline 6 = .ok (.aload_n 2, 1) := by decide +kernel
theorem dX9_unline_7 : decode cX9_unline 7 = .ok (.ifnonnull 5, 3) := by decide +kernel
theorem dX9_unline_10 : decode cX9_unline 10 = .ok (.iconst (-1), 1) := by decide +kernel
theorem dX9_unline_11 : decode cX9_unline 11 = .ok (.ireturn, 1) := by decide +kernel
theorem dX9_unline_12 : decode cX9_unline 12 = .ok (.aload_n 2, 1) := by decide +kernel
theorem dX9_unline_13 : decode cX9_unline 13 = .ok (.getfield 201, 3) := by decide +kernel
theorem dX9_unline_16 : decode cX9_unline 16 = .ok (.ifnonnull 6, 3) := by decide +kernel
theorem dX9_unline_19 : decode cX9_unline 19 = .ok (.bipush (-3), 2) := by decide +kernel
theorem dX9_unline_21 : decode cX9_unline 21 = .ok (.ireturn, 1) := by decide +kernel
theorem dX9_unline_22 : decode cX9_unline 22 = .ok (.aload_n 0, 1) := by decide +kernel
theorem dX9_unline_23 : decode cX9_unline 23 = .ok (.getfield 99, 3) := by decide +kernel
theorem dX9_unline_26 : decode cX9_unline 26 = .ok (.bipush 40, 2) := by decide +kernel
theorem dX9_unline_28 : decode cX9_unline 28 = .ok (.if_icmp .lt 6, 3) := by decide +kernel
theorem dX9_unline_31 : decode cX9_unline 31 = .ok (.bipush (-4), 2) := by decide +kernel
theorem dX9_unline_33 : decode cX9_unline 33 = .ok (.ireturn, 1) := by decide +kernel
theorem dX9_unline_34 : decode cX9_unline 34 = .ok (.aload_n 2, 1) := by decide +kernel
theorem dX9_unline_35 : decode cX9_unline 35 = .ok (.getfield 201, 3) := by decide +kernel
theorem dX9_unline_38 : decode cX9_unline 38 = .ok (.astore_n 3, 1) := by decide +kernel
theorem dX9_unline_39 : decode cX9_unline 39 = .ok (.aload_n 2, 1) := by decide +kernel
theorem dX9_unline_40 : decode cX9_unline 40 = .ok (.aconst_null, 1) := by decide +kernel
theorem dX9_unline_41 : decode cX9_unline 41 = .ok (.putfield 201, 3) := by decide +kernel
theorem dX9_unline_44 : decode cX9_unline 44 = .ok (.aload_n 0, 1) := by decide +kernel
theorem dX9_unline_45 : decode cX9_unline 45 = .ok (.aload_n 3, 1) := by decide +kernel
theorem dX9_unline_46 : decode cX9_unline 46 = .ok (.invokevirtual 118, 3) := by decide +kernel
theorem dX9_unline_49 : decode cX9_unline 49 = .ok (.ireturn, 1) := by decide +kernel
theorem dX9_rules_0 : decode cX9_rules 0 = .ok (.iload_n 1, 1) := by decide +kernel
theorem dX9_rules_1 : decode cX9_rules 1 = .ok (.iconst 0, 1) := by decide +kernel
theorem dX9_rules_2 : decode cX9_rules 2 = .ok (.iconst 3, 1) := by decide +kernel
theorem dX9_rules_3 : decode cX9_rules 3 = .ok (.invokestatic 88, 3) := by decide +kernel
theorem dX9_rules_6 : decode cX9_rules 6 = .ok (.ifCond .ne 5, 3) := by decide +kernel
theorem dX9_rules_9 : decode cX9_rules 9 = .ok (.iconst (-1), 1) := by decide +kernel
theorem dX9_rules_10 : decode cX9_rules 10 = .ok (.ireturn, 1) := by decide +kernel
theorem dX9_rules_11 : decode cX9_rules 11 = .ok (.aload_n 0, 1) := by decide +kernel
theorem dX9_rules_12 : decode cX9_rules 12 = .ok (.getfield 19, 3) := by decide +kernel
theorem dX9_rules_15 : decode cX9_rules 15 = .ok (.aload_n 0, 1) := by decide +kernel
theorem dX9_rules_16 : decode cX9_rules 16 = .ok (.getfield 12, 3) := by decide +kernel
theorem dX9_rules_19 : decode cX9_rules 19 = .ok (.invokevirtual 236, 3) := by decide +kernel
theorem dX9_rules_22 : decode cX9_rules 22 = .ok (.istore_n 2, 1) := by decide +kernel
theorem dX9_rules_23 : decode cX9_rules 23 = .ok (.aload_n 0, 1) := by decide +kernel
theorem dX9_rules_24 : decode cX9_rules 24 = .ok (.getfield 12, 3) := by decide +kernel
theorem dX9_rules_27 : decode cX9_rules 27 = .ok (.iconst 0, 1) := by decide +kernel
theorem dX9_rules_28 : decode cX9_rules 28 = .ok (.putfield 92, 3) := by decide +kernel
theorem dX9_rules_31 : decode cX9_rules 31 = .ok (.iload_n 2, 1) := by decide +kernel
theorem dX9_rules_32 : decode cX9_rules 32 = .ok (.ifCond .lt 20, 3) := by decide +kernel
theorem dX9_rules_35 : decode cX9_rules 35 = .ok (.aload_n 0, 1) := by decide +kernel
theorem dX9_rules_36 : decode cX9_rules 36 = .ok (.getfield 66, 3) := by decide +kernel
theorem dX9_rules_39 : decode cX9_rules 39 = .ok (.iload_n 1, 1) := by decide +kernel
theorem dX9_rules_40 : decode cX9_rules 40 = .ok (.aaload, 1) := by decide +kernel
theorem dX9_rules_41 : decode cX9_rules 41 = .ok (.aload_n 0, 1) := by decide +kernel
theorem dX9_rules_42 : decode cX9_rules 42 = .ok (.getfield 19, 3) := by decide +kernel
theorem dX9_rules_45 : decode cX9_rules 45 = .ok (.getfield 240, 3) := by decide +kernel
theorem dX9_rules_48 : decode cX9_rules 48 = .ok (.iload_n 2, 1) := by decide +kernel
theorem dX9_rules_49 : decode cX9_rules 49 = .ok (.invokevirtual 243, 3) := by decide +kernel
theorem dX9_rules_52 : decode cX9_rules 52 = .ok (.iload_n 2, 1) := by decide +kernel
theorem dX9_rules_53 : decode cX9_rules 53 = .ok (.ireturn, 1) := by decide +kernel
theorem dX9_chest_0 : decode cX9_chest 0 = .ok (.aload_n 0, 1) := by decide +kernel
theorem dX9_chest_1 : decode cX9_chest 1 = .ok (.iload_n 1, 1) := by decide +kernel
theorem dX9_chest_2 : decode cX9_chest 2 = .ok (.invokevirtual 190, 3) := by decide +kernel
theorem dX9_chest_5 : decode cX9_chest 5 = .ok (.astore_n 3, 1) := by decide +kernel
theorem dX9_chest_6 : decode cX9_chest 6 = .ok (.aload_n 3, 1) := by decide +kernel
theorem dX9_chest_7 : decode cX9_chest 7 = .ok (.ifnull 12, 3) := by decide +kernel
theorem dX9_chest_10 : decode cX9_chest 10 = .ok (.iload_n 2, 1) := by decide +kernel
theorem dX9_chest_11 : decode cX9_chest 11 = .ok (.iconst (-1), 1) := by decide +kernel
theorem dX9_chest_12 : decode cX9_chest 12 = .ok (.iconst 3, 1) := by decide +kernel
theorem dX9_chest_13 : decode cX9_chest 13 = .ok (.invokestatic 88, 3) := by decide +kernel
theorem dX9_chest_16 : decode cX9_chest 16 = .ok (.ifCond .ne 6, 3) := by decide +kernel
theorem dX9_chest_19 : decode cX9_chest 19 = .ok (.bipush (-5), 2) := by decide +kernel
theorem dX9_chest_21 : decode cX9_chest 21 = .ok (.ireturn, 1) := by decide +kernel
theorem dX9_chest_22 : decode cX9_chest 22 = .ok (.aload_n 3, 1) := by decide +kernel
theorem dX9_chest_23 : decode cX9_chest 23 = .ok (.getfield 210, 3) := by decide +kernel
theorem dX9_chest_26 : decode cX9_chest 26 = .ok (.iconst (-1), 1) := by decide +kernel
theorem dX9_chest_27 : decode cX9_chest 27 = .ok (.if_icmp .eq 6, 3) := by decide +kernel
theorem dX9_chest_30 : decode cX9_chest 30 = .ok (.bipush (-3), 2) := by decide +kernel
theorem dX9_chest_32 : decode cX9_chest 32 = .ok (.ireturn, 1) := by decide +kernel
theorem dX9_chest_33 : decode cX9_chest 33 = .ok (.aload_n 3, 1) := by decide +kernel
theorem dX9_chest_34 : decode cX9_chest 34 = .ok (.getfield 207, 3) := by decide +kernel
theorem dX9_chest_37 : decode cX9_chest 37 = .ok (.istore 4, 2) := by decide +kernel
theorem dX9_chest_39 : decode cX9_chest 39 = .ok (.aload_n 3, 1) := by decide +kernel
theorem dX9_chest_40 : decode cX9_chest 40 = .ok (.iload_n 2, 1) := by decide +kernel
theorem dX9_chest_41 : decode cX9_chest 41 = .ok (.putfield 207, 3) := by decide +kernel
theorem dX9_chest_44 : decode cX9_chest 44 = .ok (.iload 4, 2) := by decide +kernel
theorem dX9_chest_46 : decode cX9_chest 46 = .ok (.ireturn, 1) := by decide +kernel
theorem dX9_person_0 : decode cX9_person 0 = .ok (.iload_n 1, 1) := by decide +kernel
theorem dX9_person_1 : decode cX9_person 1 = .ok (.iconst 0, 1) := by decide +kernel
theorem dX9_person_2 : decode cX9_person 2 = .ok (.bipush 9, 2) := by decide +kernel
theorem dX9_person_4 : decode cX9_person 4 = .ok (.invokestatic 88, 3) := by decide +kernel
theorem dX9_person_7 : decode cX9_person 7 = .ok (.ifCond .ne 5, 3) := by decide +kernel
theorem dX9_person_10 : decode cX9_person 10 = .ok (.iconst (-1), 1) := by decide +kernel
theorem dX9_person_11 : decode cX9_person 11 = .ok (.ireturn, 1) := by decide +kernel
theorem dX9_person_12 : decode cX9_person 12 = .ok (.iload_n 2, 1) := by decide +kernel
theorem dX9_person_13 : decode cX9_person 13 = .ok (.iconst 0, 1) := by decide +kernel
theorem dX9_person_14 : decode cX9_person 14 = .ok (.bipush 99, 2) := by decide +kernel
theorem dX9_person_16 : decode cX9_person 16 = .ok (.invokestatic 88, 3) := by decide +kernel
theorem dX9_person_19 : decode cX9_person 19 = .ok (.ifCond .eq 13, 3) := by decide +kernel
theorem dX9_person_22 : decode cX9_person 22 = .ok (.iload_n 3, 1) := by decide +kernel
theorem dX9_person_23 : decode cX9_person 23 = .ok (.iconst 0, 1) := by decide +kernel
theorem dX9_person_24 : decode cX9_person 24 = .ok (.bipush 9, 2) := by decide +kernel
theorem dX9_person_26 : decode cX9_person 26 = .ok (.invokestatic 88, 3) := by decide +kernel
theorem dX9_person_29 : decode cX9_person 29 = .ok (.ifCond .ne 6, 3) := by decide +kernel
theorem dX9_person_32 : decode cX9_person 32 = .ok (.bipush (-2), 2) := by decide +kernel
theorem dX9_person_34 : decode cX9_person 34 = .ok (.ireturn, 1) := by decide +kernel
theorem dX9_person_35 : decode cX9_person 35 = .ok (.aload_n 0, 1) := by decide +kernel
theorem dX9_person_36 : decode cX9_person 36 = .ok (.getfield 72, 3) := by decide +kernel
theorem dX9_person_39 : decode cX9_person 39 = .ok (.iload_n 1, 1) := by decide +kernel
theorem dX9_person_40 : decode cX9_person 40 = .ok (.aaload, 1) := by decide +kernel
theorem dX9_person_41 : decode cX9_person 41 = .ok (.astore 4, 2) := by decide +kernel
theorem dX9_person_43 : decode cX9_person 43 = .ok (.aload 4, 2) := by decide +kernel
theorem dX9_person_45 : decode cX9_person 45 = .ok (.getfield 247, 3) := by decide +kernel
theorem dX9_person_48 : decode cX9_person 48 = .ok (.ifCond .eq 7, 3) := by decide +kernel
theorem dX9_person_51 : decode cX9_person 51 = .ok (.iconst 0, 1) := by decide +kernel
theorem dX9_person_52 : decode cX9_person 52 = .ok (.goto 4, 3) := by decide +kernel
theorem dX9_person_55 : decode cX9_person 55 = .ok (.iconst 1, 1) := by decide +kernel
theorem dX9_person_56 : decode cX9_person 56 = .ok (.istore 5, 2) := by decide +kernel
theorem dX9_person_58 : decode cX9_person 58 = .ok (.aload 4, 2) := by decide +kernel
theorem dX9_person_60 : decode cX9_person 60 = .ok (.iconst 1, 1) := by decide +kernel
theorem dX9_person_61 : decode cX9_person 61 = .ok (.putfield 247, 3) := by decide +kernel
theorem dX9_person_64 : decode cX9_person 64 = .ok (.aload 4, 2) := by decide +kernel
theorem dX9_person_66 : decode cX9_person 66 = .ok (.iload_n 2, 1) := by decide +kernel
theorem dX9_person_67 : decode cX9_person 67 = .ok (.putfield 251, 3) := by decide +kernel
theorem dX9_person_70 : decode cX9_person 70 = .ok (.aload 4, 2) := by decide +kernel
theorem dX9_person_72 : decode cX9_person 72 = .ok (.iload_n 3, 1) := by decide +kernel
theorem dX9_person_73 : decode cX9_person 73 = .ok (.putfield 254, 3) := by decide +kernel
theorem dX9_person_76 : decode cX9_person 76 = .ok (.iload 5, 2) := by decide +kernel
theorem dX9_person_78 : decode cX9_person 78 = .ok (.ireturn, 1) := by decide +kernel
theorem dX9_may_0 : decode cX9_may 0 = .ok (.aload_n 0, 1) := by decide +kernel
theorem dX9_may_1 : decode cX9_may 1 = .ok (.iload_n 1, 1) := by decide +kernel
theorem dX9_may_2 : decode cX9_may 2 = .ok (.invokevirtual 190, 3) := by decide +kernel
theorem dX9_may_5 : decode cX9_may 5 = .ok (.astore 4, 2) := by decide +kernel
theorem dX9_may_7 : decode cX9_may 7 = .ok (.aload_n 0, 1) := by decide +kernel
theorem dX9_may_8 : decode cX9_may 8 = .ok (.iload_n 2, 1) := by decide +kernel
theorem dX9_may_9 : decode cX9_may 9 = .ok (.invokevirtual 257, 3) := by decide +kernel
theorem dX9_may_12 : decode cX9_may 12 = .ok (.astore 5, 2) := by decide +kernel
theorem dX9_may_14 : decode cX9_may 14 = .ok (.aload 4, 2) := by decide +kernel
theorem dX9_may_16 : decode cX9_may 16 = .ok (.ifnull 8, 3) := by decide +kernel
theorem dX9_may_19 : decode cX9_may 19 = .ok (.aload 5, 2) := by decide +kernel
theorem dX9_may_21 : decode cX9_may 21 = .ok (.ifnonnull 5, 3) := by decide +kernel
theorem dX9_may_24 : decode cX9_may 24 = .ok (.iconst (-1), 1) := by decide +kernel
theorem dX9_may_25 : decode cX9_may 25 = .ok (.ireturn, 1) := by decide +kernel
theorem dX9_may_26 : decode cX9_may 26 = .ok (.iload_n 3, 1) := by decide +kernel
theorem dX9_may_27 : decode cX9_may 27 = .ok (.iconst 0, 1) := by decide +kernel
theorem dX9_may_28 : decode cX9_may 28 = .ok (.iconst 3, 1) := by decide +kernel
theorem dX9_may_29 : decode cX9_may 29 = .ok (.invokestatic 88, 3) := by decide +kernel
theorem dX9_may_32 : decode cX9_may 32 = .ok (.ifCond .ne 6, 3) := by decide +kernel
theorem dX9_may_35 : decode cX9_may 35 = .ok (.bipush (-2), 2) := by decide +kernel
theorem dX9_may_37 : decode cX9_may 37 = .ok (.ireturn, 1) := by decide +kernel
theorem dX9_may_38 : decode cX9_may 38 = .ok (.aload 4, 2) := by decide +kernel
theorem dX9_may_40 : decode cX9_may 40 = .ok (.invokevirtual 261, 3) := by decide +kernel
theorem dX9_may_43 : decode cX9_may 43 = .ok (.ifCond .ne 6, 3) := by decide +kernel
theorem dX9_may_46 : decode cX9_may 46 = .ok (.bipush (-3), 2) := by decide +kernel
theorem dX9_may_48 : decode cX9_may 48 = .ok (.ireturn, 1) := by decide +kernel
theorem dX9_may_49 : decode cX9_may 49 = .ok (.aload_n 0, 1) := by decide +kernel
theorem dX9_may_50 : decode cX9_may 50 = .ok (.aload 4, 2) := by decide +kernel
theorem dX9_may_52 : decode cX9_may 52 = .ok (.aload 5, 2) := by decide +kernel
theorem dX9_may_54 : decode cX9_may 54 = .ok (.iload_n 3, 1) := by decide +kernel
theorem dX9_may_55 : decode cX9_may 55 = .ok (.invokevirtual 265, 3) := by decide +kernel
theorem dX9_may_58 : decode cX9_may 58 = .ok (.ifCond .eq 7, 3) := by decide +kernel
theorem dX9_may_61 : decode cX9_may 61 = .ok (.iconst 1, 1) := by decide +kernel
theorem dX9_may_62 : decode cX9_may 62 = .ok (.goto 4, 3) := by decide +kernel
theorem dX9_may_65 : decode cX9_may 65 = .ok (.iconst 0, 1) := by decide +kernel
theorem dX9_may_66 : decode cX9_may 66 = .ok (.ireturn, 1) := by decide +kernel
theorem dX9_lend_0 : decode cX9_lend 0 = .ok (.aload_n 0, 1) := by decide +kernel
theorem dX9_lend_1 : decode cX9_lend 1 = .ok (.iload_n 1, 1) := by decide +kernel
theorem dX9_lend_2 : decode cX9_lend 2 = .ok (.invokevirtual 190, 3) := by decide +kernel
theorem dX9_lend_5 : decode cX9_lend 5 = .ok (.astore 4, 2) := by decide +kernel
theorem dX9_lend_7 : decode cX9_lend 7 = .ok (.aload_n 0, 1) := by decide +kernel
theorem dX9_lend_8 : decode cX9_lend 8 = .ok (.iload_n 2, 1) := by decide +kernel
theorem dX9_lend_9 : decode cX9_lend 9 = .ok (.invokevirtual 257, 3) := by decide +kernel
theorem dX9_lend_12 : decode cX9_lend 12 = .ok (.astore 5, 2) := by decide +kernel
theorem dX9_lend_14 : decode cX9_lend 14 = .ok (.aload 4, 2) := by decide +kernel
theorem dX9_lend_16 : decode cX9_lend 16 = .ok (.ifnull 8, 3) := by decide +kernel
theorem dX9_lend_19 : decode cX9_lend 19 = .ok (.aload 5, 2) := by decide +kernel
theorem dX9_lend_21 : decode cX9_lend 21 = .ok (.ifnonnull 5, 3) := by decide +kernel
theorem dX9_lend_24 : decode cX9_lend 24 = .ok (.iconst (-1), 1) := by decide +kernel
theorem dX9_lend_25 : decode cX9_lend 25 = .ok (.ireturn, 1) := by decide +kernel
theorem dX9_lend_26 : decode cX9_lend 26 = .ok (.iload_n 3, 1) := by decide +kernel
theorem dX9_lend_27 : decode cX9_lend 27 = .ok (.iconst 0, 1) := by decide +kernel
theorem dX9_lend_28 : decode cX9_lend 28 = .ok (.iconst 3, 1) := by decide +kernel
theorem dX9_lend_29 : decode cX9_lend 29 = .ok (.invokestatic 88, 3) := by decide +kernel
theorem dX9_lend_32 : decode cX9_lend 32 = .ok (.ifCond .ne 6, 3) := by decide +kernel
theorem dX9_lend_35 : decode cX9_lend 35 = .ok (.bipush (-2), 2) := by decide +kernel
theorem dX9_lend_37 : decode cX9_lend 37 = .ok (.ireturn, 1) := by decide +kernel
theorem dX9_lend_38 : decode cX9_lend 38 = .ok (.aload 4, 2) := by decide +kernel
theorem dX9_lend_40 : decode cX9_lend 40 = .ok (.invokevirtual 261, 3) := by decide +kernel
theorem dX9_lend_43 : decode cX9_lend 43 = .ok (.ifCond .eq 23, 3) := by decide +kernel
theorem dX9_lend_46 : decode cX9_lend 46 = .ok (.aload 5, 2) := by decide +kernel
theorem dX9_lend_48 : decode cX9_lend 48 = .ok (.getfield 269, 3) := by decide +kernel
theorem dX9_lend_51 : decode cX9_lend 51 = .ok (.ifCond .ne 15, 3) := by decide +kernel
theorem dX9_lend_54 : decode cX9_lend 54 = .ok (.aload_n 0, 1) := by decide +kernel
theorem dX9_lend_55 : decode cX9_lend 55 = .ok (.aload 4, 2) := by decide +kernel
theorem dX9_lend_57 : decode cX9_lend 57 = .ok (.aload 5, 2) := by decide +kernel
theorem dX9_lend_59 : decode cX9_lend 59 = .ok (.iload_n 3, 1) := by decide +kernel
theorem dX9_lend_60 : decode cX9_lend 60 = .ok (.invokevirtual 265, 3) := by decide +kernel
theorem dX9_lend_63 : decode cX9_lend 63 = .ok (.ifCond .ne 6, 3) := by decide +kernel
theorem dX9_lend_66 : decode cX9_lend 66 = .ok (.bipush (-3), 2) := by decide +kernel
theorem dX9_lend_68 : decode cX9_lend 68 = .ok (.ireturn, 1) := by decide +kernel
theorem dX9_lend_69 : decode cX9_lend 69 = .ok (.aload 4, 2) := by decide +kernel
theorem dX9_lend_71 : decode cX9_lend 71 = .ok (.iload_n 2, 1) := by decide +kernel
theorem dX9_lend_72 : decode cX9_lend 72 = .ok (.putfield 210, 3) := by decide +kernel
theorem dX9_lend_75 : decode cX9_lend 75 = .ok (.aload 5, 2) := by decide +kernel
theorem dX9_lend_77 : decode cX9_lend 77 = .ok (.iconst 1, 1) := by decide +kernel
theorem dX9_lend_78 : decode cX9_lend 78 = .ok (.putfield 269, 3) := by decide +kernel
theorem dX9_lend_81 : decode cX9_lend 81 = .ok (.iconst 0, 1) := by decide +kernel
theorem dX9_lend_82 : decode cX9_lend 82 = .ok (.ireturn, 1) := by decide +kernel
theorem dX9_back_0 : decode cX9_back 0 = .ok (.aload_n 0, 1) := by decide +kernel
theorem dX9_back_1 : decode cX9_back 1 = .ok (.iload_n 1, 1) := by decide +kernel
theorem dX9_back_2 : decode cX9_back 2 = .ok (.invokevirtual 190, 3) := by decide +kernel
theorem dX9_back_5 : decode cX9_back 5 = .ok (.astore_n 3, 1) := by decide +kernel
theorem dX9_back_6 : decode cX9_back 6 = .ok (.aload_n 3, 1) := by decide +kernel
theorem dX9_back_7 : decode cX9_back 7 = .ok (.ifnonnull 5, 3) := by decide +kernel
theorem dX9_back_10 : decode cX9_back 10 = .ok (.iconst (-1), 1) := by decide +kernel
theorem dX9_back_11 : decode cX9_back 11 = .ok (.ireturn, 1) := by decide +kernel
theorem dX9_back_12 : decode cX9_back 12 = .ok (.iload_n 2, 1) := by decide +kernel
theorem dX9_back_13 : decode cX9_back 13 = .ok (.iconst 0, 1) := by decide +kernel
theorem dX9_back_14 : decode cX9_back 14 = .ok (.bipush 9, 2) := by decide +kernel
theorem dX9_back_16 : decode cX9_back 16 = .ok (.invokestatic 88, 3) := by decide +kernel
theorem dX9_back_19 : decode cX9_back 19 = .ok (.ifCond .ne 6, 3) := by decide +kernel
theorem dX9_back_22 : decode cX9_back 22 = .ok (.bipush (-2), 2) := by decide +kernel
theorem dX9_back_24 : decode cX9_back 24 = .ok (.ireturn, 1) := by decide +kernel
theorem dX9_back_25 : decode cX9_back 25 = .ok (.aload_n 3, 1) := by decide +kernel
theorem dX9_back_26 : decode cX9_back 26 = .ok (.getfield 210, 3) := by decide +kernel
theorem dX9_back_29 : decode cX9_back 29 = .ok (.istore 4, 2) := by decide +kernel
theorem dX9_back_31 : decode cX9_back 31 = .ok (.iload 4, 2) := by decide +kernel
theorem dX9_back_33 : decode cX9_back 33 = .ok (.iconst 0, 1) := by decide +kernel
theorem dX9_back_34 : decode cX9_back 34 = .ok (.bipush 9, 2) := by decide +kernel
theorem dX9_back_36 : decode cX9_back 36 = .ok (.invokestatic 88, 3) := by decide +kernel
theorem dX9_back_39 : decode cX9_back 39 = .ok (.ifCond .ne 6, 3) := by decide +kernel
theorem dX9_back_42 : decode cX9_back 42 = .ok (.bipush (-3), 2) := by decide +kernel
theorem dX9_back_44 : decode cX9_back 44 = .ok (.ireturn, 1) := by decide +kernel
theorem dX9_back_45 : decode cX9_back 45 = .ok (.aload_n 3, 1) := by decide +kernel
theorem dX9_back_46 : decode cX9_back 46 = .ok (.iconst (-1), 1) := by decide +kernel
theorem dX9_back_47 : decode cX9_back 47 = .ok (.putfield 210, 3) := by decide +kernel
theorem dX9_back_50 : decode cX9_back 50 = .ok (.aload_n 0, 1) := by decide +kernel
theorem dX9_back_51 : decode cX9_back 51 = .ok (.getfield 72, 3) := by decide +kernel
theorem dX9_back_54 : decode cX9_back 54 = .ok (.iload 4, 2) := by decide +kernel
theorem dX9_back_56 : decode cX9_back 56 = .ok (.aaload, 1) := by decide +kernel
theorem dX9_back_57 : decode cX9_back 57 = .ok (.iconst 0, 1) := by decide +kernel
theorem dX9_back_58 : decode cX9_back 58 = .ok (.putfield 269, 3) := by decide +kernel
theorem dX9_back_61 : decode cX9_back 61 = .ok (.iconst 0, 1) := by decide +kernel
theorem dX9_back_62 : decode cX9_back 62 = .ok (.istore 5, 2) := by decide +kernel
theorem dX9_back_64 : decode cX9_back 64 = .ok (.iload 5, 2) := by decide +kernel
theorem dX9_back_66 : decode cX9_back 66 = .ok (.iload_n 2, 1) := by decide +kernel
theorem dX9_back_67 : decode cX9_back 67 = .ok (.if_icmp .ge 14, 3) := by decide +kernel
theorem dX9_back_70 : decode cX9_back 70 = .ok (.aload_n 3, 1) := by decide +kernel
theorem dX9_back_71 : decode cX9_back 71 = .ok (.invokevirtual 226, 3) := by decide +kernel
theorem dX9_back_74 : decode cX9_back 74 = .ok (.pop, 1) := by decide +kernel
theorem dX9_back_75 : decode cX9_back 75 = .ok (.iinc 5 1, 3) := by decide +kernel
theorem dX9_back_78 : decode cX9_back 78 = .ok (.goto (-14), 3) := by decide +kernel
theorem dX9_back_81 : decode cX9_back 81 = .ok (.iload 4, 2) := by decide +kernel
theorem dX9_back_83 : decode cX9_back 83 = .ok (.ireturn, 1) := by decide +kernel
theorem dX9_clothe_0 : decode cX9_clothe 0 = .ok (.iload_n 1, 1) := by decide +kernel
theorem dX9_clothe_1 : decode cX9_clothe 1 = .ok (.iconst 0, 1) := by decide +kernel
theorem dX9_clothe_2 : decode cX9_clothe 2 = .ok (.iconst 3, 1) := by decide +kernel
theorem dX9_clothe_3 : decode cX9_clothe 3 = .ok (.invokestatic 88, 3) := by decide +kernel
theorem dX9_clothe_6 : decode cX9_clothe 6 = .ok (.ifCond .ne 6, 3) := by decide +kernel
theorem dX9_clothe_9 : decode cX9_clothe 9 = .ok (.bipush (-2), 2) := by decide +kernel
theorem dX9_clothe_11 : decode cX9_clothe 11 = .ok (.ireturn, 1) := by decide +kernel
theorem dX9_clothe_12 : decode cX9_clothe 12 = .ok (.iconst 0, 1) := by decide +kernel
theorem dX9_clothe_13 : decode cX9_clothe 13 = .ok (.istore_n 2, 1) := by decide +kernel
theorem dX9_clothe_14 : decode cX9_clothe 14 = .ok (.iload_n 2, 1) := by decide +kernel
theorem dX9_clothe_15 : decode cX9_clothe 15 = .ok (.bipush 10, 2) := by decide +kernel
theorem dX9_clothe_17 : decode cX9_clothe 17 = .ok (.if_icmp .ge 29, 3) := by decide +kernel
theorem dX9_clothe_20 : decode cX9_clothe 20 = .ok (.aload_n 0, 1) := by decide +kernel
theorem dX9_clothe_21 : decode cX9_clothe 21 = .ok (.getfield 79, 3) := by decide +kernel
theorem dX9_clothe_24 : decode cX9_clothe 24 = .ok (.getfield 272, 3) := by decide +kernel
theorem dX9_clothe_27 : decode cX9_clothe 27 = .ok (.iload_n 2, 1) := by decide +kernel
theorem dX9_clothe_28 : decode cX9_clothe 28 = .ok (.aload_n 0, 1) := by decide +kernel
theorem dX9_clothe_29 : decode cX9_clothe 29 = .ok (.aload_n 0, 1) := by decide +kernel
theorem dX9_clothe_30 : decode cX9_clothe 30 = .ok (.getfield 72, 3) := by decide +kernel
theorem dX9_clothe_33 : decode cX9_clothe 33 = .ok (.iload_n 2, 1) := by decide +kernel
theorem dX9_clothe_34 : decode cX9_clothe 34 = .ok (.aaload, 1) := by decide +kernel
theorem dX9_clothe_35 : decode cX9_clothe 35 = .ok (.iload_n 1, 1) := by decide +kernel
theorem dX9_clothe_36 : decode cX9_clothe 36 = .ok (.invokevirtual 275, 3) := by decide +kernel
theorem dX9_clothe_39 : decode cX9_clothe 39 = .ok (.iastore, 1) := by decide +kernel
theorem dX9_clothe_40 : decode cX9_clothe 40 = .ok (.iinc 2 1, 3) := by decide +kernel
theorem dX9_clothe_43 : decode cX9_clothe 43 = .ok (.goto (-29), 3) := by decide +kernel
theorem dX9_clothe_46 : decode cX9_clothe 46 = .ok (.aload_n 0, 1) := by decide +kernel
theorem dX9_clothe_47 : decode cX9_clothe 47 = .ok (.getfield 79, 3) := by decide +kernel
theorem dX9_clothe_50 : decode cX9_clothe 50 = .ok (.invokevirtual 279, 3) := by decide +kernel
theorem dX9_clothe_53 : decode cX9_clothe 53 = .ok (.ireturn, 1) := by decide +kernel
theorem dX9_gets_0 : decode cX9_gets 0 = .ok (.iload_n 1, 1) := by decide +kernel
theorem dX9_gets_1 : decode cX9_gets 1 = .ok (.iconst 0, 1) := by decide +kernel
theorem dX9_gets_2 : decode cX9_gets 2 = .ok (.bipush 9, 2) := by decide +kernel
theorem dX9_gets_4 : decode cX9_gets 4 = .ok (.invokestatic 88, 3) := by decide +kernel
theorem dX9_gets_7 : decode cX9_gets 7 = .ok (.ifCond .eq 15, 3) := by decide +kernel
theorem dX9_gets_10 : decode cX9_gets 10 = .ok (.aload_n 0, 1) := by decide +kernel
theorem dX9_gets_11 : decode cX9_gets 11 = .ok (.getfield 79, 3) := by decide +kernel
theorem dX9_gets_14 : decode cX9_gets 14 = .ok (.getfield 282, 3) := by decide +kernel
theorem dX9_gets_17 : decode cX9_gets 17 = .ok (.iload_n 1, 1) := by decide +kernel
theorem dX9_gets_18 : decode cX9_gets 18 = .ok (.iaload, 1) := by decide +kernel
theorem dX9_gets_19 : decode cX9_gets 19 = .ok (.goto 4, 3) := by decide +kernel
theorem dX9_gets_22 : decode cX9_gets 22 = .ok (.iconst (-1), 1) := by decide +kernel
theorem dX9_gets_23 : decode cX9_gets 23 = .ok (.ireturn, 1) := by decide +kernel
theorem dX9_count_0 : decode cX9_count 0 = .ok (.iload_n 1, 1) := by decide +kernel
theorem dX9_count_1 : decode cX9_count 1 = .ok (.tableswitch 72 0 5 #[39, 44, 49, 54, 59, 67], 39) := by decide +kernel
theorem dX9_count_40 : decode cX9_count 40 = .ok (.aload_n 0, 1) := by decide +kernel
theorem dX9_count_41 : decode cX9_count 41 = .ok (.invokevirtual 285, 3) := by decide +kernel
theorem dX9_count_44 : decode cX9_count 44 = .ok (.ireturn, 1) := by decide +kernel
theorem dX9_count_45 : decode cX9_count 45 = .ok (.aload_n 0, 1) := by decide +kernel
theorem dX9_count_46 : decode cX9_count 46 = .ok (.invokevirtual 288, 3) := by decide +kernel
theorem dX9_count_49 : decode cX9_count 49 = .ok (.ireturn, 1) := by decide +kernel
theorem dX9_count_50 : decode cX9_count 50 = .ok (.aload_n 0, 1) := by decide +kernel
theorem dX9_count_51 : decode cX9_count 51 = .ok (.invokevirtual 291, 3) := by decide +kernel
theorem dX9_count_54 : decode cX9_count 54 = .ok (.ireturn, 1) := by decide +kernel
theorem dX9_count_55 : decode cX9_count 55 = .ok (.aload_n 0, 1) := by decide +kernel
theorem dX9_count_56 : decode cX9_count 56 = .ok (.invokevirtual 294, 3) := by decide +kernel
theorem dX9_count_59 : decode cX9_count 59 = .ok (.ireturn, 1) := by decide +kernel
theorem dX9_count_60 : decode cX9_count 60 = .ok (.aload_n 0, 1) := by decide +kernel
theorem dX9_count_61 : decode cX9_count 61 = .ok (.getfield 12, 3) := by decide +kernel
theorem dX9_count_64 : decode cX9_count 64 = .ok (.getfield 92, 3) := by decide +kernel
theorem dX9_count_67 : decode cX9_count 67 = .ok (.ireturn, 1) := by decide +kernel
theorem dX9_count_68 : decode cX9_count 68 = .ok (.aload_n 0, 1) := by decide +kernel
theorem dX9_count_69 : decode cX9_count 69 = .ok (.getfield 99, 3) := by decide +kernel
theorem dX9_count_72 : decode cX9_count 72 = .ok (.ireturn, 1) := by decide +kernel
theorem dX9_count_73 : decode cX9_count 73 = .ok (.iconst (-1), 1) := by decide +kernel
theorem dX9_count_74 : decode cX9_count 74 = .ok (.ireturn, 1) := by decide +kernel
theorem dX9_within_0 : decode cX9_within 0 = .ok (.iload_n 0, 1) := by decide +kernel
theorem dX9_within_1 : decode cX9_within 1 = .ok (.iload_n 1, 1) := by decide +kernel
theorem dX9_within_2 : decode cX9_within 2 = .ok (.if_icmp .lt 12, 3) := by decide +kernel
theorem dX9_within_5 : decode cX9_within 5 = .ok (.iload_n 0, 1) := by decide +kernel
theorem dX9_within_6 : decode cX9_within 6 = .ok (.iload_n 2, 1) := by decide +kernel
theorem dX9_within_7 : decode cX9_within 7 = .ok (.if_icmp .gt 7, 3) := by decide +kernel
theorem dX9_within_10 : decode cX9_within 10 = .ok (.iconst 1, 1) := by decide +kernel
theorem dX9_within_11 : decode cX9_within 11 = .ok (.goto 4, 3) := by decide +kernel
theorem dX9_within_14 : decode cX9_within 14 = .ok (.iconst 0, 1) := by decide +kernel
theorem dX9_within_15 : decode cX9_within 15 = .ok (.ireturn, 1) := by decide +kernel
theorem dX9_pieceAt_0 : decode cX9_pieceAt 0 = .ok (.iload_n 0, 1) := by decide +kernel
theorem dX9_pieceAt_1 : decode cX9_pieceAt 1 = .ok (.istore_n 2, 1) := by decide +kernel
theorem dX9_pieceAt_2 : decode cX9_pieceAt 2 = .ok (.iconst 5, 1) := by decide +kernel
theorem dX9_pieceAt_3 : decode cX9_pieceAt 3 = .ok (.istore_n 3, 1) := by decide +kernel
theorem dX9_pieceAt_4 : decode cX9_pieceAt 4 = .ok (.iload_n 3, 1) := by decide +kernel
theorem dX9_pieceAt_5 : decode cX9_pieceAt 5 = .ok (.iload_n 1, 1) := by decide +kernel
theorem dX9_pieceAt_6 : decode cX9_pieceAt 6 = .ok (.if_icmp .le 14, 3) := by decide +kernel
theorem dX9_pieceAt_9 : decode cX9_pieceAt 9 = .ok (.iload_n 2, 1) := by decide +kernel
theorem dX9_pieceAt_10 : decode cX9_pieceAt 10 = .ok (.bipush 6, 2) := by decide +kernel
theorem dX9_pieceAt_12 : decode cX9_pieceAt 12 = .ok (.idiv, 1) := by decide +kernel
theorem dX9_pieceAt_13 : decode cX9_pieceAt 13 = .ok (.istore_n 2, 1) := by decide +kernel
theorem dX9_pieceAt_14 : decode cX9_pieceAt 14 = .ok (.iinc 3 (-1), 3) := by decide +kernel
theorem dX9_pieceAt_17 : decode cX9_pieceAt 17 = .ok (.goto (-13), 3) := by decide +kernel
theorem dX9_pieceAt_20 : decode cX9_pieceAt 20 = .ok (.iload_n 2, 1) := by decide +kernel
theorem dX9_pieceAt_21 : decode cX9_pieceAt 21 = .ok (.bipush 6, 2) := by decide +kernel
theorem dX9_pieceAt_23 : decode cX9_pieceAt 23 = .ok (.invokestatic 297, 3) := by decide +kernel
theorem dX9_pieceAt_26 : decode cX9_pieceAt 26 = .ok (.ireturn, 1) := by decide +kernel
theorem dX9_boltAt_0 : decode cX9_boltAt 0 = .ok (.iload_n 1, 1) := by decide +kernel
theorem dX9_boltAt_1 : decode cX9_boltAt 1 = .ok (.iconst 0, 1) := by decide +kernel
theorem dX9_boltAt_2 : decode cX9_boltAt 2 = .ok (.bipush 39, 2) := by decide +kernel
theorem dX9_boltAt_4 : decode cX9_boltAt 4 = .ok (.invokestatic 88, 3) := by decide +kernel
theorem dX9_boltAt_7 : decode cX9_boltAt 7 = .ok (.ifCond .eq 12, 3) := by decide +kernel
theorem dX9_boltAt_10 : decode cX9_boltAt 10 = .ok (.aload_n 0, 1) := by decide +kernel
theorem dX9_boltAt_11 : decode cX9_boltAt 11 = .ok (.getfield 25, 3) := by decide +kernel
theorem dX9_boltAt_14 : decode cX9_boltAt 14 = .ok (.iload_n 1, 1) := by decide +kernel
theorem dX9_boltAt_15 : decode cX9_boltAt 15 = .ok (.aaload, 1) := by decide +kernel
theorem dX9_boltAt_16 : decode cX9_boltAt 16 = .ok (.goto 4, 3) := by decide +kernel
theorem dX9_boltAt_19 : decode cX9_boltAt 19 = .ok (.aconst_null, 1) := by decide +kernel
theorem dX9_boltAt_20 : decode cX9_boltAt 20 = .ok (.areturn, 1) := by decide +kernel
theorem dX9_robeAt_0 : decode cX9_robeAt 0 = .ok (.iload_n 1, 1) := by decide +kernel
theorem dX9_robeAt_1 : decode cX9_robeAt 1 = .ok (.iconst 0, 1) := by decide +kernel
theorem dX9_robeAt_2 : decode cX9_robeAt 2 = .ok (.bipush 29, 2) := by decide +kernel
theorem dX9_robeAt_4 : decode cX9_robeAt 4 = .ok (.invokestatic 88, 3) := by decide +kernel
theorem dX9_robeAt_7 : decode cX9_robeAt 7 = .ok (.ifCond .eq 12, 3) := by decide +kernel
theorem dX9_robeAt_10 : decode cX9_robeAt 10 = .ok (.aload_n 0, 1) := by decide +kernel
theorem dX9_robeAt_11 : decode cX9_robeAt 11 = .ok (.getfield 31, 3) := by decide +kernel
theorem dX9_robeAt_14 : decode cX9_robeAt 14 = .ok (.iload_n 1, 1) := by decide +kernel
theorem dX9_robeAt_15 : decode cX9_robeAt 15 = .ok (.aaload, 1) := by decide +kernel
theorem dX9_robeAt_16 : decode cX9_robeAt 16 = .ok (.goto 4, 3) := by decide +kernel
theorem dX9_robeAt_19 : decode cX9_robeAt 19 = .ok (.aconst_null, 1) := by decide +kernel
theorem dX9_robeAt_20 : decode cX9_robeAt 20 = .ok (.areturn, 1) := by decide +kernel
theorem dX9_personAt_0 : decode cX9_personAt 0 = .ok (.iload_n 1, 1) := by decide +kernel
theorem dX9_personAt_1 : decode cX9_personAt 1 = .ok (.iconst 0, 1) := by decide +kernel
theorem dX9_personAt_2 : decode cX9_personAt 2 = .ok (.bipush 9, 2) := by decide +kernel
theorem dX9_personAt_4 : decode cX9_personAt 4 = .ok (.invokestatic 88, 3) := by decide +kernel
theorem dX9_personAt_7 : decode cX9_personAt 7 = .ok (.ifCond .eq 24, 3) := by decide +kernel
theorem dX9_personAt_10 : decode cX9_personAt 10 = .ok (.aload_n 0, 1) := by decide +kernel
theorem dX9_personAt_11 : decode cX9_personAt 11 = .ok (.getfield 72, 3) := by decide +kernel
theorem dX9_personAt_14 : decode cX9_personAt 14 = .ok (.iload_n 1, 1) := by decide +kernel
theorem dX9_personAt_15 : decode cX9_personAt 15 = .ok (.aaload, 1) := by decide +kernel
theorem dX9_personAt_16 : decode cX9_personAt 16 = .ok (.getfield 247, 3) := by decide +kernel
theorem dX9_personAt_19 : decode cX9_personAt 19 = .ok (.ifCond .eq 12, 3) := by decide +kernel
theorem dX9_personAt_22 : decode cX9_personAt 22 = .ok (.aload_n 0, 1) := by decide +kernel
theorem dX9_personAt_23 : decode cX9_personAt 23 = .ok (.getfield 72, 3) := by decide +kernel
theorem dX9_personAt_26 : decode cX9_personAt 26 = .ok (.iload_n 1, 1) := by decide +kernel
theorem dX9_personAt_27 : decode cX9_personAt 27 = .ok (.aaload, 1) := by decide +kernel
theorem dX9_personAt_28 : decode cX9_personAt 28 = .ok (.goto 4, 3) := by decide +kernel
theorem dX9_personAt_31 : decode cX9_personAt 31 = .ok (.aconst_null, 1) := by decide +kernel
theorem dX9_personAt_32 : decode cX9_personAt 32 = .ok (.areturn, 1) := by decide +kernel
theorem dX9_keepBolt_0 : decode cX9_keepBolt 0 = .ok (.aload_n 0, 1) := by decide +kernel
theorem dX9_keepBolt_1 : decode cX9_keepBolt 1 = .ok (.getfield 99, 3) := by decide +kernel
theorem dX9_keepBolt_4 : decode cX9_keepBolt 4 = .ok (.bipush 40, 2) := by decide +kernel
theorem dX9_keepBolt_6 : decode cX9_keepBolt 6 = .ok (.if_icmp .lt 6, 3) := by decide +kernel
theorem dX9_keepBolt_9 : decode cX9_keepBolt 9 = .ok (.bipush (-4), 2) := by decide +kernel
theorem dX9_keepBolt_11 : decode cX9_keepBolt 11 = .ok (.ireturn, 1) := by decide +kernel
theorem dX9_keepBolt_12 : decode cX9_keepBolt 12 = .ok (.aload_n 0, 1) := by decide +kernel
theorem dX9_keepBolt_13 : decode cX9_keepBolt 13 = .ok (.getfield 25, 3) := by decide +kernel
theorem dX9_keepBolt_16 : decode cX9_keepBolt 16 = .ok (.aload_n 0, 1) := by decide +kernel
theorem dX9_keepBolt_17 : decode cX9_keepBolt 17 = .ok (.getfield 99, 3) := by decide +kernel
theorem dX9_keepBolt_20 : decode cX9_keepBolt 20 = .ok (.aload_n 1, 1) := by decide +kernel
theorem dX9_keepBolt_21 : decode cX9_keepBolt 21 = .ok (.aastore, 1) := by decide +kernel
theorem dX9_keepBolt_22 : decode cX9_keepBolt 22 = .ok (.aload_n 0, 1) := by decide +kernel
theorem dX9_keepBolt_23 : decode cX9_keepBolt 23 = .ok (.dup, 1) := by decide +kernel
theorem dX9_keepBolt_24 : decode cX9_keepBolt 24 = .ok (.getfield 99, 3) := by decide +kernel
theorem dX9_keepBolt_27 : decode cX9_keepBolt 27 = .ok (.iconst 1, 1) := by decide +kernel
theorem dX9_keepBolt_28 : decode cX9_keepBolt 28 = .ok (.iadd, 1) := by decide +kernel
theorem dX9_keepBolt_29 : decode cX9_keepBolt 29 = .ok (.putfield 99, 3) := by decide +kernel
theorem dX9_keepBolt_32 : decode cX9_keepBolt 32 = .ok (.aload_n 0, 1) := by decide +kernel
theorem dX9_keepBolt_33 : decode cX9_keepBolt 33 = .ok (.getfield 99, 3) := by decide +kernel
theorem dX9_keepBolt_36 : decode cX9_keepBolt 36 = .ok (.iconst 1, 1) := by decide +kernel
theorem dX9_keepBolt_37 : decode cX9_keepBolt 37 = .ok (.isub, 1) := by decide +kernel
theorem dX9_keepBolt_38 : decode cX9_keepBolt 38 = .ok (.ireturn, 1) := by decide +kernel
theorem dX9_fitSleeves_0 : decode cX9_fitSleeves 0 = .ok (.aload_n 1, 1) := by decide +kernel
theorem dX9_fitSleeves_1 : decode cX9_fitSleeves 1 = .ok (.getfield 126, 3) := by decide +kernel
theorem dX9_fitSleeves_4 : decode cX9_fitSleeves 4 = .ok (.arraylength, 1) := by decide +kernel
theorem dX9_fitSleeves_5 : decode cX9_fitSleeves 5 = .ok (.iconst 2, 1) := by decide +kernel
theorem dX9_fitSleeves_6 : decode cX9_fitSleeves 6 = .ok (.aload_n 0, 1) := by decide +kernel
theorem dX9_fitSleeves_7 : decode cX9_fitSleeves 7 = .ok (.getfield 35, 3) := by decide +kernel
theorem dX9_fitSleeves_10 : decode cX9_fitSleeves 10 = .ok (.iconst 0, 1) := by decide +kernel
theorem dX9_fitSleeves_11 : decode cX9_fitSleeves 11 = .ok (.iaload, 1) := by decide +kernel
theorem dX9_fitSleeves_12 : decode cX9_fitSleeves 12 = .ok (.imul, 1) := by decide +kernel
theorem dX9_fitSleeves_13 : decode cX9_fitSleeves 13 = .ok (.isub, 1) := by decide +kernel
theorem dX9_fitSleeves_14 : decode cX9_fitSleeves 14 = .ok (.aload_n 0, 1) := by decide +kernel
theorem dX9_fitSleeves_15 : decode cX9_fitSleeves 15 = .ok (.getfield 35, 3) := by decide +kernel
theorem dX9_fitSleeves_18 : decode cX9_fitSleeves 18 = .ok (.iconst 4, 1) := by decide +kernel
theorem dX9_fitSleeves_19 : decode cX9_fitSleeves 19 = .ok (.iaload, 1) := by decide +kernel
theorem dX9_fitSleeves_20 : decode cX9_fitSleeves 20 = .ok (.isub, 1) := by decide +kernel
theorem dX9_fitSleeves_21 : decode cX9_fitSleeves 21 = .ok (.aload_n 0, 1) := by decide +kernel
theorem dX9_fitSleeves_22 : decode cX9_fitSleeves 22 = .ok (.getfield 35, 3) := by decide +kernel
theorem dX9_fitSleeves_25 : decode cX9_fitSleeves 25 = .ok (.iconst 5, 1) := by decide +kernel
theorem dX9_fitSleeves_26 : decode cX9_fitSleeves 26 = .ok (.iaload, 1) := by decide +kernel
theorem dX9_fitSleeves_27 : decode cX9_fitSleeves 27 = .ok (.isub, 1) := by decide +kernel
theorem dX9_fitSleeves_28 : decode cX9_fitSleeves 28 = .ok (.istore_n 2, 1) := by decide +kernel
theorem dX9_fitSleeves_29 : decode cX9_fitSleeves 29 = .ok (.iload_n 2, 1) := by decide +kernel
theorem dX9_fitSleeves_30 : decode cX9_fitSleeves 30 = .ok (.iconst 2, 1) := by decide +kernel
theorem dX9_fitSleeves_31 : decode cX9_fitSleeves 31 = .ok (.if_icmp .lt 9, 3) := by decide +kernel
theorem dX9_fitSleeves_34 : decode cX9_fitSleeves 34 = .ok (.iload_n 2, 1) := by decide +kernel
theorem dX9_fitSleeves_35 : decode cX9_fitSleeves 35 = .ok (.iconst 2, 1) := by decide +kernel
theorem dX9_fitSleeves_36 : decode cX9_fitSleeves 36 = .ok (.irem, 1) := by decide +kernel
theorem dX9_fitSleeves_37 : decode cX9_fitSleeves 37 = .ok (.ifCond .eq 5, 3) := by decide +kernel
theorem dX9_fitSleeves_40 : decode cX9_fitSleeves 40 = .ok (.iconst 0, 1) := by decide +kernel
theorem dX9_fitSleeves_41 : decode cX9_fitSleeves 41 = .ok (.ireturn, 1) := by decide +kernel
theorem dX9_fitSleeves_42 : decode cX9_fitSleeves 42 = .ok (.aload_n 0, 1) := by decide +kernel
theorem dX9_fitSleeves_43 : decode cX9_fitSleeves 43 = .ok (.getfield 35, 3) := by decide +kernel
theorem dX9_fitSleeves_46 : decode cX9_fitSleeves 46 = .ok (.iconst 2, 1) := by decide +kernel
theorem dX9_fitSleeves_47 : decode cX9_fitSleeves 47 = .ok (.iload_n 2, 1) := by decide +kernel
theorem dX9_fitSleeves_48 : decode cX9_fitSleeves 48 = .ok (.iconst 2, 1) := by decide +kernel
theorem dX9_fitSleeves_49 : decode cX9_fitSleeves 49 = .ok (.idiv, 1) := by decide +kernel
theorem dX9_fitSleeves_50 : decode cX9_fitSleeves 50 = .ok (.iastore, 1) := by decide +kernel
theorem dX9_fitSleeves_51 : decode cX9_fitSleeves 51 = .ok (.aload_n 0, 1) := by decide +kernel
theorem dX9_fitSleeves_52 : decode cX9_fitSleeves 52 = .ok (.getfield 35, 3) := by decide +kernel
theorem dX9_fitSleeves_55 : decode cX9_fitSleeves 55 = .ok (.iconst 3, 1) := by decide +kernel
theorem dX9_fitSleeves_56 : decode cX9_fitSleeves 56 = .ok (.iload_n 2, 1) := by decide +kernel
theorem dX9_fitSleeves_57 : decode cX9_fitSleeves 57 = .ok (.iconst 2, 1) := by decide +kernel
theorem dX9_fitSleeves_58 : decode cX9_fitSleeves 58 = .ok (.idiv, 1) := by decide +kernel
theorem dX9_fitSleeves_59 : decode cX9_fitSleeves 59 = .ok (.iastore, 1) := by decide +kernel
theorem dX9_fitSleeves_60 : decode cX9_fitSleeves 60 = .ok (.iconst 1, 1) := by decide +kernel
theorem dX9_fitSleeves_61 : decode cX9_fitSleeves 61 = .ok (.ireturn, 1) := by decide +kernel
theorem dX9_spreadRobe_0 : decode cX9_spreadRobe 0 = .ok (.aload_n 0, 1) := by decide +kernel
theorem dX9_spreadRobe_1 : decode cX9_spreadRobe 1 = .ok (.getfield 57, 3) := by decide +kernel
theorem dX9_spreadRobe_4 : decode cX9_spreadRobe 4 = .ok (.aload_n 1, 1) := by decide +kernel
theorem dX9_spreadRobe_5 : decode cX9_spreadRobe 5 = .ok (.getfield 194, 3) := by decide +kernel
theorem dX9_spreadRobe_8 : decode cX9_spreadRobe 8 = .ok (.getfield 126, 3) := by decide +kernel
theorem dX9_spreadRobe_11 : decode cX9_spreadRobe 11 = .ok (.aload_n 1, 1) := by decide +kernel
theorem dX9_spreadRobe_12 : decode cX9_spreadRobe 12 = .ok (.getfield 198, 3) := by decide +kernel
theorem dX9_spreadRobe_15 : decode cX9_spreadRobe 15 = .ok (.aload_n 0, 1) := by decide +kernel
theorem dX9_spreadRobe_16 : decode cX9_spreadRobe 16 = .ok (.getfield 39, 3) := by decide +kernel
theorem dX9_spreadRobe_19 : decode cX9_spreadRobe 19 = .ok (.aload_n 0, 1) := by decide +kernel
theorem dX9_spreadRobe_20 : decode cX9_spreadRobe 20 = .ok (.getfield 43, 3) := by decide +kernel
theorem dX9_spreadRobe_23 : decode cX9_spreadRobe 23 = .ok (.invokevirtual 149, 3) := by decide +kernel
theorem dX9_spreadRobe_26 : decode cX9_spreadRobe 26 = .ok (.aload_n 0, 1) := by decide +kernel
theorem dX9_spreadRobe_27 : decode cX9_spreadRobe 27 = .ok (.getfield 57, 3) := by decide +kernel
theorem dX9_spreadRobe_30 : decode cX9_spreadRobe 30 = .ok (.sipush 1865, 3) := by decide +kernel
theorem dX9_spreadRobe_33 : decode cX9_spreadRobe 33 = .ok (.iconst 0, 1) := by decide +kernel
theorem dX9_spreadRobe_34 : decode cX9_spreadRobe 34 = .ok (.invokevirtual 155, 3) := by decide +kernel
theorem dX9_spreadRobe_37 : decode cX9_spreadRobe 37 = .ok (.return_, 1) := by decide +kernel
theorem dX9_canWear_0 : decode cX9_canWear 0 = .ok (.aload_n 1, 1) := by decide +kernel
theorem dX9_canWear_1 : decode cX9_canWear 1 = .ok (.getfield 207, 3) := by decide +kernel
theorem dX9_canWear_4 : decode cX9_canWear 4 = .ok (.iconst 0, 1) := by decide +kernel
theorem dX9_canWear_5 : decode cX9_canWear 5 = .ok (.iconst 3, 1) := by decide +kernel
theorem dX9_canWear_6 : decode cX9_canWear 6 = .ok (.invokestatic 88, 3) := by decide +kernel
theorem dX9_canWear_9 : decode cX9_canWear 9 = .ok (.ifCond .ne 5, 3) := by decide +kernel
theorem dX9_canWear_12 : decode cX9_canWear 12 = .ok (.iconst 0, 1) := by decide +kernel
theorem dX9_canWear_13 : decode cX9_canWear 13 = .ok (.ireturn, 1) := by decide +kernel
theorem dX9_canWear_14 : decode cX9_canWear 14 = .ok (.aload_n 0, 1) := by decide +kernel
theorem dX9_canWear_15 : decode cX9_canWear 15 = .ok (.getfield 83, 3) := by decide +kernel
theorem dX9_canWear_18 : decode cX9_canWear 18 = .ok (.iconst 0, 1) := by decide +kernel
theorem dX9_canWear_19 : decode cX9_canWear 19 = .ok (.iload_n 3, 1) := by decide +kernel
theorem dX9_canWear_20 : decode cX9_canWear 20 = .ok (.iastore, 1) := by decide +kernel
theorem dX9_canWear_21 : decode cX9_canWear 21 = .ok (.aload_n 0, 1) := by decide +kernel
theorem dX9_canWear_22 : decode cX9_canWear 22 = .ok (.getfield 83, 3) := by decide +kernel
theorem dX9_canWear_25 : decode cX9_canWear 25 = .ok (.iconst 1, 1) := by decide +kernel
theorem dX9_canWear_26 : decode cX9_canWear 26 = .ok (.aload_n 2, 1) := by decide +kernel
theorem dX9_canWear_27 : decode cX9_canWear 27 = .ok (.getfield 251, 3) := by decide +kernel
theorem dX9_canWear_30 : decode cX9_canWear 30 = .ok (.iastore, 1) := by decide +kernel
theorem dX9_canWear_31 : decode cX9_canWear 31 = .ok (.aload_n 0, 1) := by decide +kernel
theorem dX9_canWear_32 : decode cX9_canWear 32 = .ok (.getfield 83, 3) := by decide +kernel
theorem dX9_canWear_35 : decode cX9_canWear 35 = .ok (.iconst 2, 1) := by decide +kernel
theorem dX9_canWear_36 : decode cX9_canWear 36 = .ok (.aload_n 2, 1) := by decide +kernel
theorem dX9_canWear_37 : decode cX9_canWear 37 = .ok (.getfield 254, 3) := by decide +kernel
theorem dX9_canWear_40 : decode cX9_canWear 40 = .ok (.iastore, 1) := by decide +kernel
theorem dX9_canWear_41 : decode cX9_canWear 41 = .ok (.aload_n 0, 1) := by decide +kernel
theorem dX9_canWear_42 : decode cX9_canWear 42 = .ok (.getfield 83, 3) := by decide +kernel
theorem dX9_canWear_45 : decode cX9_canWear 45 = .ok (.iconst 3, 1) := by decide +kernel
theorem dX9_canWear_46 : decode cX9_canWear 46 = .ok (.aload_n 1, 1) := by decide +kernel
theorem dX9_canWear_47 : decode cX9_canWear 47 = .ok (.getfield 194, 3) := by decide +kernel
theorem dX9_canWear_50 : decode cX9_canWear 50 = .ok (.getfield 127, 3) := by decide +kernel
theorem dX9_canWear_53 : decode cX9_canWear 53 = .ok (.iastore, 1) := by decide +kernel
theorem dX9_canWear_54 : decode cX9_canWear 54 = .ok (.aload_n 0, 1) := by decide +kernel
theorem dX9_canWear_55 : decode cX9_canWear 55 = .ok (.getfield 83, 3) := by decide +kernel
theorem dX9_canWear_58 : decode cX9_canWear 58 = .ok (.iconst 4, 1) := by decide +kernel
theorem dX9_canWear_59 : decode cX9_canWear 59 = .ok (.aload_n 1, 1) := by decide +kernel
theorem dX9_canWear_60 : decode cX9_canWear 60 = .ok (.getfield 201, 3) := by decide +kernel
theorem dX9_canWear_63 : decode cX9_canWear 63 = .ok (.ifnonnull 7, 3) := by decide +kernel
theorem dX9_canWear_66 : decode cX9_canWear 66 = .ok (.iconst 0, 1) := by decide +kernel
theorem dX9_canWear_67 : decode cX9_canWear 67 = .ok (.goto 4, 3) := by decide +kernel
theorem dX9_canWear_70 : decode cX9_canWear 70 = .ok (.iconst 1, 1) := by decide +kernel
theorem dX9_canWear_71 : decode cX9_canWear 71 = .ok (.iastore, 1) := by decide +kernel
theorem dX9_canWear_72 : decode cX9_canWear 72 = .ok (.aload_n 0, 1) := by decide +kernel
theorem dX9_canWear_73 : decode cX9_canWear 73 = .ok (.getfield 83, 3) := by decide +kernel
theorem dX9_canWear_76 : decode cX9_canWear 76 = .ok (.iconst 5, 1) := by decide +kernel
theorem dX9_canWear_77 : decode cX9_canWear 77 = .ok (.aload_n 1, 1) := by decide +kernel
theorem dX9_canWear_78 : decode cX9_canWear 78 = .ok (.getfield 198, 3) := by decide +kernel
theorem dX9_canWear_81 : decode cX9_canWear 81 = .ok (.iconst 2, 1) := by decide +kernel
theorem dX9_canWear_82 : decode cX9_canWear 82 = .ok (.iaload, 1) := by decide +kernel
theorem dX9_canWear_83 : decode cX9_canWear 83 = .ok (.iastore, 1) := by decide +kernel
theorem dX9_canWear_84 : decode cX9_canWear 84 = .ok (.aload_n 0, 1) := by decide +kernel
theorem dX9_canWear_85 : decode cX9_canWear 85 = .ok (.getfield 66, 3) := by decide +kernel
theorem dX9_canWear_88 : decode cX9_canWear 88 = .ok (.aload_n 1, 1) := by decide +kernel
theorem dX9_canWear_89 : decode cX9_canWear 89 = .ok (.getfield 207, 3) := by decide +kernel
theorem dX9_canWear_92 : decode cX9_canWear 92 = .ok (.aaload, 1) := by decide +kernel
theorem dX9_canWear_93 : decode cX9_canWear 93 = .ok (.aload_n 0, 1) := by decide +kernel
theorem dX9_canWear_94 : decode cX9_canWear 94 = .ok (.getfield 83, 3) := by decide +kernel
theorem dX9_canWear_97 : decode cX9_canWear 97 = .ok (.invokevirtual 302, 3) := by decide +kernel
theorem dX9_canWear_100 : decode cX9_canWear 100 = .ok (.ireturn, 1) := by decide +kernel
theorem dX9_wearableFor_0 : decode cX9_wearableFor 0 = .ok (.aload_n 1, 1) := by decide +kernel
theorem dX9_wearableFor_1 : decode cX9_wearableFor 1 = .ok (.getfield 247, 3) := by decide +kernel
theorem dX9_wearableFor_4 : decode cX9_wearableFor 4 = .ok (.ifCond .eq 10, 3) := by decide +kernel
theorem dX9_wearableFor_7 : decode cX9_wearableFor 7 = .ok (.aload_n 1, 1) := by decide +kernel
theorem dX9_wearableFor_8 : decode cX9_wearableFor 8 = .ok (.getfield 269, 3) := by decide +kernel
theorem dX9_wearableFor_11 : decode cX9_wearableFor 11 = .ok (.ifCond .eq 5, 3) := by decide +kernel
theorem dX9_wearableFor_14 : decode cX9_wearableFor 14 = .ok (.iconst 0, 1) := by decide +kernel
theorem dX9_wearableFor_15 : decode cX9_wearableFor 15 = .ok (.ireturn, 1) := by decide +kernel
theorem dX9_wearableFor_16 : decode cX9_wearableFor 16 = .ok (.iconst 0, 1) := by decide +kernel
theorem dX9_wearableFor_17 : decode cX9_wearableFor 17 = .ok (.istore_n 3, 1) := by decide +kernel
theorem dX9_wearableFor_18 : decode cX9_wearableFor 18 = .ok (.iconst 0, 1) := by decide +kernel
theorem dX9_wearableFor_19 : decode cX9_wearableFor 19 = .ok (.istore 4, 2) := by decide +kernel
theorem dX9_wearableFor_21 : decode cX9_wearableFor 21 = .ok (.iload 4, 2) := by decide +kernel
theorem dX9_wearableFor_23 : decode cX9_wearableFor 23 = .ok (.bipush 30, 2) := by decide +kernel
theorem dX9_wearableFor_25 : decode cX9_wearableFor 25 = .ok (.if_icmp .ge 49, 3) := by decide +kernel
theorem dX9_wearableFor_28 : decode cX9_wearableFor 28 = .ok (.aload_n 0, 1) := by decide +kernel
theorem dX9_wearableFor_29 : decode cX9_wearableFor 29 = .ok (.getfield 31, 3) := by decide +kernel
theorem dX9_wearableFor_32 : decode cX9_wearableFor 32 = .ok (.iload 4, 2) := by decide +kernel
theorem dX9_wearableFor_34 : decode cX9_wearableFor 34 = .ok (.aaload, 1) := by decide +kernel
theorem dX9_wearableFor_35 : decode cX9_wearableFor 35 = .ok (.astore 5, 2) := by decide +kernel
theorem dX9_wearableFor_37 : decode cX9_wearableFor 37 = .ok (.aload 5, 2) := by decide +kernel
theorem dX9_wearableFor_39 : decode cX9_wearableFor 39 = .ok (.ifnull 29, 3) := by decide +kernel
theorem dX9_wearableFor_42 : decode cX9_wearableFor 42 = .ok (.aload 5, 2) := by decide +kernel
theorem dX9_wearableFor_44 : decode cX9_wearableFor 44 = .ok (.invokevirtual 261, 3) := by decide +kernel
theorem dX9_wearableFor_47 : decode cX9_wearableFor 47 = .ok (.ifCond .eq 21, 3) := by decide +kernel
theorem dX9_wearableFor_50 : decode cX9_wearableFor 50 = .ok (.aload_n 0, 1) := by decide +kernel
theorem dX9_wearableFor_51 : decode cX9_wearableFor 51 = .ok (.aload 5, 2) := by decide +kernel
theorem dX9_wearableFor_53 : decode cX9_wearableFor 53 = .ok (.aload_n 1, 1) := by decide +kernel
theorem dX9_wearableFor_54 : decode cX9_wearableFor 54 = .ok (.iload_n 2, 1) := by decide +kernel
theorem dX9_wearableFor_55 : decode cX9_wearableFor 55 = .ok (.invokevirtual 265, 3) := by decide +kernel
theorem dX9_wearableFor_58 : decode cX9_wearableFor 58 = .ok (.ifCond .eq 10, 3) := by decide +kernel
theorem dX9_wearableFor_61 : decode cX9_wearableFor 61 = .ok (.iload_n 3, 1) := by decide +kernel
theorem dX9_wearableFor_62 : decode cX9_wearableFor 62 = .ok (.iconst 1, 1) := by decide +kernel
theorem dX9_wearableFor_63 : decode cX9_wearableFor 63 = .ok (.iload 4, 2) := by decide +kernel
theorem dX9_wearableFor_65 : decode cX9_wearableFor 65 = .ok (.ishl, 1) := by decide +kernel
theorem dX9_wearableFor_66 : decode cX9_wearableFor 66 = .ok (.ior, 1) := by decide +kernel
theorem dX9_wearableFor_67 : decode cX9_wearableFor 67 = .ok (.istore_n 3, 1) := by decide +kernel
theorem dX9_wearableFor_68 : decode cX9_wearableFor 68 = .ok (.iinc 4 1, 3) := by decide +kernel
theorem dX9_wearableFor_71 : decode cX9_wearableFor 71 = .ok (.goto (-50), 3) := by decide +kernel
theorem dX9_wearableFor_74 : decode cX9_wearableFor 74 = .ok (.iload_n 3, 1) := by decide +kernel
theorem dX9_wearableFor_75 : decode cX9_wearableFor 75 = .ok (.ireturn, 1) := by decide +kernel
theorem dX9_boltsThere_0 : decode cX9_boltsThere 0 = .ok (.iconst 0, 1) := by decide +kernel
theorem dX9_boltsThere_1 : decode cX9_boltsThere 1 = .ok (.istore_n 1, 1) := by decide +kernel
theorem dX9_boltsThere_2 : decode cX9_boltsThere 2 = .ok (.aload_n 0, 1) := by decide +kernel
theorem dX9_boltsThere_3 : decode cX9_boltsThere 3 = .ok (.getfield 25, 3) := by decide +kernel
theorem dX9_boltsThere_6 : decode cX9_boltsThere 6 = .ok (.astore_n 2, 1) := by decide +kernel
theorem dX9_boltsThere_7 : decode cX9_boltsThere 7 = .ok (.aload_n 2, 1) := by decide +kernel
theorem dX9_boltsThere_8 : decode cX9_boltsThere 8 = .ok (.arraylength, 1) := by decide +kernel
theorem dX9_boltsThere_9 : decode cX9_boltsThere 9 = .ok (.istore_n 3, 1) := by decide +kernel
theorem dX9_boltsThere_10 : decode cX9_boltsThere 10 = .ok (.iconst 0, 1) := by decide +kernel
theorem dX9_boltsThere_11 : decode cX9_boltsThere 11 = .ok (.istore 4, 2) := by decide +kernel
theorem dX9_boltsThere_13 : decode cX9_boltsThere 13 = .ok (.iload 4, 2) := by decide +kernel
theorem dX9_boltsThere_15 : decode cX9_boltsThere 15 = .ok (.iload_n 3, 1) := by decide +kernel
theorem dX9_boltsThere_16 : decode cX9_boltsThere 16 = .ok (.if_icmp .ge 23, 3) := by decide +kernel
theorem dX9_boltsThere_19 : decode cX9_boltsThere 19 = .ok (.aload_n 2, 1) := by decide +kernel
theorem dX9_boltsThere_20 : decode cX9_boltsThere 20 = .ok (.iload 4, 2) := by decide +kernel
theorem dX9_boltsThere_22 : decode cX9_boltsThere 22 = .ok (.aaload, 1) := by decide +kernel
theorem dX9_boltsThere_23 : decode cX9_boltsThere 23 = .ok (.astore 5, 2) := by decide +kernel
theorem dX9_boltsThere_25 : decode cX9_boltsThere 25 = .ok (.aload 5, 2) := by decide +kernel
theorem dX9_boltsThere_27 : decode cX9_boltsThere 27 = .ok (.ifnull 6, 3) := by decide +kernel
theorem dX9_boltsThere_30 : decode cX9_boltsThere 30 = .ok (.iinc 1 1, 3) := by decide +kernel
theorem dX9_boltsThere_33 : decode cX9_boltsThere 33 = .ok (.iinc 4 1, 3) := by decide +kernel
theorem dX9_boltsThere_36 : decode cX9_boltsThere 36 = .ok (.goto (-23), 3) := by decide +kernel
theorem dX9_boltsThere_39 : decode cX9_boltsThere 39 = .ok (.iload_n 1, 1) := by decide +kernel
theorem dX9_boltsThere_40 : decode cX9_boltsThere 40 = .ok (.ireturn, 1) := by decide +kernel
theorem dX9_robesThere_0 : decode cX9_robesThere 0 = .ok (.iconst 0, 1) := by decide +kernel
theorem dX9_robesThere_1 : decode cX9_robesThere 1 = .ok (.istore_n 1, 1) := by decide +kernel
theorem dX9_robesThere_2 : decode cX9_robesThere 2 = .ok (.aload_n 0, 1) := by decide +kernel
theorem dX9_robesThere_3 : decode cX9_robesThere 3 = .ok (.getfield 31, 3) := by decide +kernel
