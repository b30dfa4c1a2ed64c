theorem dX5_init_0 : decode cX5_init 0 = .ok (.aload_n 0, 1) := by decide +kernel
theorem dX5_init_1 : decode cX5_init 1 = .ok (.invokespecial 3, 3) := by decide +kernel
theorem dX5_init_4 : decode cX5_init 4 = .ok (.aload_n 0, 1) := by decide +kernel
theorem dX5_init_5 : decode cX5_init 5 = .ok (.bipush 6, 2) := by decide +kernel
theorem dX5_init_7 : decode cX5_init 7 = .ok (.newarray .int, 2) := by decide +kernel
theorem dX5_init_9 : decode cX5_init 9 = .ok (.putfield 9, 3) := by decide +kernel
theorem dX5_init_12 : decode cX5_init 12 = .ok (.return_, 1) := by decide +kernel
theorem dX5_wordOf_0 : decode cX5_wordOf 0 = .ok (.iload_n 0, 1) := by decide +kernel
theorem dX5_wordOf_1 : decode cX5_wordOf 1 = .ok (.tableswitch 50 0 4 #[35, 38, 41, 44, 47], 35) := by decide +kernel
theorem dX5_wordOf_36 : decode cX5_wordOf 36 = .ok (.ldc 15, 2) := by decide +kernel
theorem dX5_wordOf_38 : decode cX5_wordOf 38 = .ok (.areturn, 1) := by decide +kernel
theorem dX5_wordOf_39 : decode cX5_wordOf 39 = .ok (.ldc 17, 2) := by decide +kernel
theorem dX5_wordOf_41 : decode cX5_wordOf 41 = .ok (.areturn, 1) := by decide +kernel
theorem dX5_wordOf_42 : decode cX5_wordOf 42 = .ok (.ldc 19, 2) := by decide +kernel
theorem dX5_wordOf_44 : decode cX5_wordOf 44 = .ok (.areturn, 1) := by decide +kernel
theorem dX5_wordOf_45 : decode cX5_wordOf 45 = .ok (.ldc 21, 2) := by decide +kernel
theorem dX5_wordOf_47 : decode cX5_wordOf 47 = .ok (.areturn, 1) := by decide +kernel
theorem dX5_wordOf_48 : decode cX5_wordOf 48 = .ok (.ldc 23, 2) := by decide +kernel
theorem dX5_wordOf_50 : decode cX5_wordOf 50 = .ok (.areturn, 1) := by decide +kernel
theorem dX5_wordOf_51 : decode cX5_wordOf 51 = .ok (.ldc 25, 2) := by decide +kernel
theorem dX5_wordOf_53 : decode cX5_wordOf 53 = .ok (.areturn, 1) := by decide +kernel
theorem dX5_holds_0 : decode cX5_holds 0 = .ok (.iload_n 0, 1) := by decide +kernel
theorem dX5_holds_1 : decode cX5_holds 1 = .ok (.sipush 300, 3) := by decide +kernel
theorem dX5_holds_4 : decode cX5_holds 4 = .ok (.idiv, 1) := by decide +kernel
theorem dX5_holds_5 : decode cX5_holds 5 = .ok (.istore_n 2, 1) := by decide +kernel
theorem dX5_holds_6 : decode cX5_holds 6 = .ok (.iload_n 2, 1) := by decide +kernel
theorem dX5_holds_7 : decode cX5_holds 7 = .ok (.ifCond .lt 9, 3) := by decide +kernel
theorem dX5_holds_10 : decode cX5_holds 10 = .ok (.iload_n 2, 1) := by decide +kernel
theorem dX5_holds_11 : decode cX5_holds 11 = .ok (.aload_n 1, 1) := by decide +kernel
theorem dX5_holds_12 : decode cX5_holds 12 = .ok (.arraylength, 1) := by decide +kernel
theorem dX5_holds_13 : decode cX5_holds 13 = .ok (.if_icmp .lt 5, 3) := by decide +kernel
theorem dX5_holds_16 : decode cX5_holds 16 = .ok (.iconst 0, 1) := by decide +kernel
theorem dX5_holds_17 : decode cX5_holds 17 = .ok (.ireturn, 1) := by decide +kernel
theorem dX5_holds_18 : decode cX5_holds 18 = .ok (.iload_n 0, 1) := by decide +kernel
theorem dX5_holds_19 : decode cX5_holds 19 = .ok (.bipush 100, 2) := by decide +kernel
theorem dX5_holds_21 : decode cX5_holds 21 = .ok (.irem, 1) := by decide +kernel
theorem dX5_holds_22 : decode cX5_holds 22 = .ok (.istore_n 3, 1) := by decide +kernel
theorem dX5_holds_23 : decode cX5_holds 23 = .ok (.iload_n 0, 1) := by decide +kernel
theorem dX5_holds_24 : decode cX5_holds 24 = .ok (.bipush 100, 2) := by decide +kernel
theorem dX5_holds_26 : decode cX5_holds 26 = .ok (.idiv, 1) := by decide +kernel
theorem dX5_holds_27 : decode cX5_holds 27 = .ok (.iconst 3, 1) := by decide +kernel
theorem dX5_holds_28 : decode cX5_holds 28 = .ok (.irem, 1) := by decide +kernel
theorem dX5_holds_29 : decode cX5_holds 29 = .ok (.lookupswitch 53 #[(0, 27), (1, 40)], 27) := by decide +kernel
theorem dX5_holds_56 : decode cX5_holds 56 = .ok (.aload_n 1, 1) := by decide +kernel
theorem dX5_holds_57 : decode cX5_holds 57 = .ok (.iload_n 2, 1) := by decide +kernel
theorem dX5_holds_58 : decode cX5_holds 58 = .ok (.iaload, 1) := by decide +kernel
theorem dX5_holds_59 : decode cX5_holds 59 = .ok (.iload_n 3, 1) := by decide +kernel
theorem dX5_holds_60 : decode cX5_holds 60 = .ok (.if_icmp .ge 7, 3) := by decide +kernel
theorem dX5_holds_63 : decode cX5_holds 63 = .ok (.iconst 1, 1) := by decide +kernel
theorem dX5_holds_64 : decode cX5_holds 64 = .ok (.goto 4, 3) := by decide +kernel
theorem dX5_holds_67 : decode cX5_holds 67 = .ok (.iconst 0, 1) := by decide +kernel
theorem dX5_holds_68 : decode cX5_holds 68 = .ok (.ireturn, 1) := by decide +kernel
theorem dX5_holds_69 : decode cX5_holds 69 = .ok (.aload_n 1, 1) := by decide +kernel
theorem dX5_holds_70 : decode cX5_holds 70 = .ok (.iload_n 2, 1) := by decide +kernel
theorem dX5_holds_71 : decode cX5_holds 71 = .ok (.iaload, 1) := by decide +kernel
theorem dX5_holds_72 : decode cX5_holds 72 = .ok (.iload_n 3, 1) := by decide +kernel
theorem dX5_holds_73 : decode cX5_holds 73 = .ok (.if_icmp .ne 7, 3) := by decide +kernel
theorem dX5_holds_76 : decode cX5_holds 76 = .ok (.iconst 1, 1) := by decide +kernel
theorem dX5_holds_77 : decode cX5_holds 77 = .ok (.goto 4, 3) := by decide +kernel
theorem dX5_holds_80 : decode cX5_holds 80 = .ok (.iconst 0, 1) := by decide +kernel
theorem dX5_holds_81 : decode cX5_holds 81 = .ok (.ireturn, 1) := by decide +kernel
theorem dX5_holds_82 : decode cX5_holds 82 = .ok (.aload_n 1, 1) := by decide +kernel
theorem dX5_holds_83 : decode cX5_holds 83 = .ok (.iload_n 2, 1) := by decide +kernel
theorem dX5_holds_84 : decode cX5_holds 84 = .ok (.iaload, 1) := by decide +kernel
theorem dX5_holds_85 : decode cX5_holds 85 = .ok (.iload_n 3, 1) := by decide +kernel
theorem dX5_holds_86 : decode cX5_holds 86 = .ok (.if_icmp .le 7, 3) := by decide +kernel
theorem dX5_holds_89 : decode cX5_holds 89 = .ok (.iconst 1, 1) := by decide +kernel
theorem dX5_holds_90 : decode cX5_holds 90 = .ok (.goto 4, 3) := by decide +kernel
theorem dX5_holds_93 : decode cX5_holds 93 = .ok (.iconst 0, 1) := by decide +kernel
theorem dX5_holds_94 : decode cX5_holds 94 = .ok (.ireturn, 1) := by decide +kernel
theorem dX5_readFrom_0 : decode cX5_readFrom 0 = .ok (.aload_n 0, 1) := by decide +kernel
theorem dX5_readFrom_1 : decode cX5_readFrom 1 = .ok (.iconst 0, 1) := by decide +kernel
theorem dX5_readFrom_2 : decode cX5_readFrom 2 = .ok (.putfield 27, 3) := by decide +kernel
theorem dX5_readFrom_5 : decode cX5_readFrom 5 = .ok (.iconst 0, 1) := by decide +kernel
theorem dX5_readFrom_6 : decode cX5_readFrom 6 = .ok (.istore_n 2, 1) := by decide +kernel
theorem dX5_readFrom_7 : decode cX5_readFrom 7 = .ok (.iload_n 2, 1) := by decide +kernel
theorem dX5_readFrom_8 : decode cX5_readFrom 8 = .ok (.bipush 6, 2) := by decide +kernel
theorem dX5_readFrom_10 : decode cX5_readFrom 10 = .ok (.if_icmp .ge 89, 3) := by decide +kernel
theorem dX5_readFrom_13 : decode cX5_readFrom 13 = .ok (.aload_n 0, 1) := by decide +kernel
theorem dX5_readFrom_14 : decode cX5_readFrom 14 = .ok (.getfield 9, 3) := by decide +kernel
theorem dX5_readFrom_17 : decode cX5_readFrom 17 = .ok (.iload_n 2, 1) := by decide +kernel
theorem dX5_readFrom_18 : decode cX5_readFrom 18 = .ok (.aload_n 0, 1) := by decide +kernel
theorem dX5_readFrom_19 : decode cX5_readFrom 19 = .ok (.aload_n 1, 1) := by decide +kernel
theorem dX5_readFrom_20 : decode cX5_readFrom 20 = .ok (.invokevirtual 31, 3) := by decide +kernel
theorem dX5_readFrom_23 : decode cX5_readFrom 23 = .ok (.iastore, 1) := by decide +kernel
theorem dX5_readFrom_24 : decode cX5_readFrom 24 = .ok (.aload_n 0, 1) := by decide +kernel
theorem dX5_readFrom_25 : decode cX5_readFrom 25 = .ok (.getfield 9, 3) := by decide +kernel
theorem dX5_readFrom_28 : decode cX5_readFrom 28 = .ok (.iload_n 2, 1) := by decide +kernel
theorem dX5_readFrom_29 : decode cX5_readFrom 29 = .ok (.iaload, 1) := by decide +kernel
theorem dX5_readFrom_30 : decode cX5_readFrom 30 = .ok (.iconst (-1), 1) := by decide +kernel
theorem dX5_readFrom_31 : decode cX5_readFrom 31 = .ok (.if_icmp .ne 11, 3) := by decide +kernel
theorem dX5_readFrom_34 : decode cX5_readFrom 34 = .ok (.bipush (-10), 2) := by decide +kernel
theorem dX5_readFrom_36 : decode cX5_readFrom 36 = .ok (.aload_n 0, 1) := by decide +kernel
theorem dX5_readFrom_37 : decode cX5_readFrom 37 = .ok (.getfield 27, 3) := by decide +kernel
theorem dX5_readFrom_40 : decode cX5_readFrom 40 = .ok (.isub, 1) := by decide +kernel
theorem dX5_readFrom_41 : decode cX5_readFrom 41 = .ok (.ireturn, 1) := by decide +kernel
theorem dX5_readFrom_42 : decode cX5_readFrom 42 = .ok (.aload_n 0, 1) := by decide +kernel
theorem dX5_readFrom_43 : decode cX5_readFrom 43 = .ok (.getfield 27, 3) := by decide +kernel
theorem dX5_readFrom_46 : decode cX5_readFrom 46 = .ok (.aload_n 1, 1) := by decide +kernel
theorem dX5_readFrom_47 : decode cX5_readFrom 47 = .ok (.getfield 35, 3) := by decide +kernel
theorem dX5_readFrom_50 : decode cX5_readFrom 50 = .ok (.if_icmp .ne 7, 3) := by decide +kernel
theorem dX5_readFrom_53 : decode cX5_readFrom 53 = .ok (.iload_n 2, 1) := by decide +kernel
theorem dX5_readFrom_54 : decode cX5_readFrom 54 = .ok (.iconst 1, 1) := by decide +kernel
theorem dX5_readFrom_55 : decode cX5_readFrom 55 = .ok (.iadd, 1) := by decide +kernel
theorem dX5_readFrom_56 : decode cX5_readFrom 56 = .ok (.ireturn, 1) := by decide +kernel
theorem dX5_readFrom_57 : decode cX5_readFrom 57 = .ok (.aload_n 1, 1) := by decide +kernel
theorem dX5_readFrom_58 : decode cX5_readFrom 58 = .ok (.aload_n 0, 1) := by decide +kernel
theorem dX5_readFrom_59 : decode cX5_readFrom 59 = .ok (.getfield 27, 3) := by decide +kernel
theorem dX5_readFrom_62 : decode cX5_readFrom 62 = .ok (.invokevirtual 40, 3) := by decide +kernel
theorem dX5_readFrom_65 : decode cX5_readFrom 65 = .ok (.bipush 59, 2) := by decide +kernel
theorem dX5_readFrom_67 : decode cX5_readFrom 67 = .ok (.if_icmp .ne 8, 3) := by decide +kernel
theorem dX5_readFrom_70 : decode cX5_readFrom 70 = .ok (.iload_n 2, 1) := by decide +kernel
theorem dX5_readFrom_71 : decode cX5_readFrom 71 = .ok (.iconst 5, 1) := by decide +kernel
theorem dX5_readFrom_72 : decode cX5_readFrom 72 = .ok (.if_icmp .ne 11, 3) := by decide +kernel
theorem dX5_readFrom_75 : decode cX5_readFrom 75 = .ok (.bipush (-10), 2) := by decide +kernel
theorem dX5_readFrom_77 : decode cX5_readFrom 77 = .ok (.aload_n 0, 1) := by decide +kernel
theorem dX5_readFrom_78 : decode cX5_readFrom 78 = .ok (.getfield 27, 3) := by decide +kernel
theorem dX5_readFrom_81 : decode cX5_readFrom 81 = .ok (.isub, 1) := by decide +kernel
theorem dX5_readFrom_82 : decode cX5_readFrom 82 = .ok (.ireturn, 1) := by decide +kernel
theorem dX5_readFrom_83 : decode cX5_readFrom 83 = .ok (.aload_n 0, 1) := by decide +kernel
theorem dX5_readFrom_84 : decode cX5_readFrom 84 = .ok (.dup, 1) := by decide +kernel
theorem dX5_readFrom_85 : decode cX5_readFrom 85 = .ok (.getfield 27, 3) := by decide +kernel
theorem dX5_readFrom_88 : decode cX5_readFrom 88 = .ok (.iconst 1, 1) := by decide +kernel
theorem dX5_readFrom_89 : decode cX5_readFrom 89 = .ok (.iadd, 1) := by decide +kernel
theorem dX5_readFrom_90 : decode cX5_readFrom 90 = .ok (.putfield 27, 3) := by decide +kernel
theorem dX5_readFrom_93 : decode cX5_readFrom 93 = .ok (.iinc 2 1, 3) := by decide +kernel
theorem dX5_readFrom_96 : decode cX5_readFrom 96 = .ok (.goto (-89), 3) := by decide +kernel
theorem dX5_readFrom_99 : decode cX5_readFrom 99 = .ok (.bipush (-10), 2) := by decide +kernel
theorem dX5_readFrom_101 : decode cX5_readFrom 101 = .ok (.aload_n 0, 1) := by decide +kernel
theorem dX5_readFrom_102 : decode cX5_readFrom 102 = .ok (.getfield 27, 3) := by decide +kernel
theorem dX5_readFrom_105 : decode cX5_readFrom 105 = .ok (.isub, 1) := by decide +kernel
theorem dX5_readFrom_106 : decode cX5_readFrom 106 = .ok (.ireturn, 1) := by decide +kernel
theorem dX5_readClause_0 : decode cX5_readClause 0 = .ok (.aload_n 0, 1) := by decide +kernel
theorem dX5_readClause_1 : decode cX5_readClause 1 = .ok (.aload_n 1, 1) := by decide +kernel
theorem dX5_readClause_2 : decode cX5_readClause 2 = .ok (.invokevirtual 44, 3) := by decide +kernel
theorem dX5_readClause_5 : decode cX5_readClause 5 = .ok (.istore_n 2, 1) := by decide +kernel
theorem dX5_readClause_6 : decode cX5_readClause 6 = .ok (.iload_n 2, 1) := by decide +kernel
theorem dX5_readClause_7 : decode cX5_readClause 7 = .ok (.iconst (-1), 1) := by decide +kernel
theorem dX5_readClause_8 : decode cX5_readClause 8 = .ok (.if_icmp .ne 5, 3) := by decide +kernel
theorem dX5_readClause_11 : decode cX5_readClause 11 = .ok (.iconst (-1), 1) := by decide +kernel
theorem dX5_readClause_12 : decode cX5_readClause 12 = .ok (.ireturn, 1) := by decide +kernel
theorem dX5_readClause_13 : decode cX5_readClause 13 = .ok (.aload_n 0, 1) := by decide +kernel
theorem dX5_readClause_14 : decode cX5_readClause 14 = .ok (.aload_n 1, 1) := by decide +kernel
theorem dX5_readClause_15 : decode cX5_readClause 15 = .ok (.invokevirtual 47, 3) := by decide +kernel
theorem dX5_readClause_18 : decode cX5_readClause 18 = .ok (.istore_n 3, 1) := by decide +kernel
theorem dX5_readClause_19 : decode cX5_readClause 19 = .ok (.iload_n 3, 1) := by decide +kernel
theorem dX5_readClause_20 : decode cX5_readClause 20 = .ok (.iconst (-1), 1) := by decide +kernel
theorem dX5_readClause_21 : decode cX5_readClause 21 = .ok (.if_icmp .ne 5, 3) := by decide +kernel
theorem dX5_readClause_24 : decode cX5_readClause 24 = .ok (.iconst (-1), 1) := by decide +kernel
theorem dX5_readClause_25 : decode cX5_readClause 25 = .ok (.ireturn, 1) := by decide +kernel
theorem dX5_readClause_26 : decode cX5_readClause 26 = .ok (.aload_n 0, 1) := by decide +kernel
theorem dX5_readClause_27 : decode cX5_readClause 27 = .ok (.aload_n 1, 1) := by decide +kernel
theorem dX5_readClause_28 : decode cX5_readClause 28 = .ok (.invokevirtual 50, 3) := by decide +kernel
theorem dX5_readClause_31 : decode cX5_readClause 31 = .ok (.istore 4, 2) := by decide +kernel
theorem dX5_readClause_33 : decode cX5_readClause 33 = .ok (.iload 4, 2) := by decide +kernel
theorem dX5_readClause_35 : decode cX5_readClause 35 = .ok (.iconst (-1), 1) := by decide +kernel
theorem dX5_readClause_36 : decode cX5_readClause 36 = .ok (.if_icmp .ne 5, 3) := by decide +kernel
theorem dX5_readClause_39 : decode cX5_readClause 39 = .ok (.iconst (-1), 1) := by decide +kernel
theorem dX5_readClause_40 : decode cX5_readClause 40 = .ok (.ireturn, 1) := by decide +kernel
theorem dX5_readClause_41 : decode cX5_readClause 41 = .ok (.iload_n 2, 1) := by decide +kernel
theorem dX5_readClause_42 : decode cX5_readClause 42 = .ok (.iconst 3, 1) := by decide +kernel
theorem dX5_readClause_43 : decode cX5_readClause 43 = .ok (.imul, 1) := by decide +kernel
theorem dX5_readClause_44 : decode cX5_readClause 44 = .ok (.iload_n 3, 1) := by decide +kernel
theorem dX5_readClause_45 : decode cX5_readClause 45 = .ok (.iadd, 1) := by decide +kernel
theorem dX5_readClause_46 : decode cX5_readClause 46 = .ok (.bipush 100, 2) := by decide +kernel
theorem dX5_readClause_48 : decode cX5_readClause 48 = .ok (.imul, 1) := by decide +kernel
theorem dX5_readClause_49 : decode cX5_readClause 49 = .ok (.iload 4, 2) := by decide +kernel
theorem dX5_readClause_51 : decode cX5_readClause 51 = .ok (.iadd, 1) := by decide +kernel
theorem dX5_readClause_52 : decode cX5_readClause 52 = .ok (.ireturn, 1) := by decide +kernel
theorem dX5_readWord_0 : decode cX5_readWord 0 = .ok (.iconst 0, 1) := by decide +kernel
theorem dX5_readWord_1 : decode cX5_readWord 1 = .ok (.istore_n 2, 1) := by decide +kernel
theorem dX5_readWord_2 : decode cX5_readWord 2 = .ok (.iconst 0, 1) := by decide +kernel
theorem dX5_readWord_3 : decode cX5_readWord 3 = .ok (.istore_n 3, 1) := by decide +kernel
theorem dX5_readWord_4 : decode cX5_readWord 4 = .ok (.iload_n 3, 1) := by decide +kernel
theorem dX5_readWord_5 : decode cX5_readWord 5 = .ok (.bipush 6, 2) := by decide +kernel
theorem dX5_readWord_7 : decode cX5_readWord 7 = .ok (.if_icmp .ge 52, 3) := by decide +kernel
theorem dX5_readWord_10 : decode cX5_readWord 10 = .ok (.aload_n 0, 1) := by decide +kernel
theorem dX5_readWord_11 : decode cX5_readWord 11 = .ok (.iload_n 3, 1) := by decide +kernel
theorem dX5_readWord_12 : decode cX5_readWord 12 = .ok (.invokestatic 53, 3) := by decide +kernel
theorem dX5_readWord_15 : decode cX5_readWord 15 = .ok (.aload_n 1, 1) := by decide +kernel
theorem dX5_readWord_16 : decode cX5_readWord 16 = .ok (.invokevirtual 57, 3) := by decide +kernel
theorem dX5_readWord_19 : decode cX5_readWord 19 = .ok (.istore 4, 2) := by decide +kernel
theorem dX5_readWord_21 : decode cX5_readWord 21 = .ok (.iload 4, 2) := by decide +kernel
theorem dX5_readWord_23 : decode cX5_readWord 23 = .ok (.iload_n 3, 1) := by decide +kernel
theorem dX5_readWord_24 : decode cX5_readWord 24 = .ok (.invokestatic 53, 3) := by decide +kernel
theorem dX5_readWord_27 : decode cX5_readWord 27 = .ok (.invokevirtual 61, 3) := by decide +kernel
theorem dX5_readWord_30 : decode cX5_readWord 30 = .ok (.if_icmp .ne 16, 3) := by decide +kernel
theorem dX5_readWord_33 : decode cX5_readWord 33 = .ok (.aload_n 0, 1) := by decide +kernel
theorem dX5_readWord_34 : decode cX5_readWord 34 = .ok (.dup, 1) := by decide +kernel
theorem dX5_readWord_35 : decode cX5_readWord 35 = .ok (.getfield 27, 3) := by decide +kernel
theorem dX5_readWord_38 : decode cX5_readWord 38 = .ok (.iload 4, 2) := by decide +kernel
theorem dX5_readWord_40 : decode cX5_readWord 40 = .ok (.iadd, 1) := by decide +kernel
theorem dX5_readWord_41 : decode cX5_readWord 41 = .ok (.putfield 27, 3) := by decide +kernel
theorem dX5_readWord_44 : decode cX5_readWord 44 = .ok (.iload_n 3, 1) := by decide +kernel
theorem dX5_readWord_45 : decode cX5_readWord 45 = .ok (.ireturn, 1) := by decide +kernel
theorem dX5_readWord_46 : decode cX5_readWord 46 = .ok (.iload_n 2, 1) := by decide +kernel
theorem dX5_readWord_47 : decode cX5_readWord 47 = .ok (.iload 4, 2) := by decide +kernel
theorem dX5_readWord_49 : decode cX5_readWord 49 = .ok (.invokestatic 67, 3) := by decide +kernel
theorem dX5_readWord_52 : decode cX5_readWord 52 = .ok (.istore_n 2, 1) := by decide +kernel
theorem dX5_readWord_53 : decode cX5_readWord 53 = .ok (.iinc 3 1, 3) := by decide +kernel
theorem dX5_readWord_56 : decode cX5_readWord 56 = .ok (.goto (-52), 3) := by decide +kernel
theorem dX5_readWord_59 : decode cX5_readWord 59 = .ok (.aload_n 0, 1) := by decide +kernel
theorem dX5_readWord_60 : decode cX5_readWord 60 = .ok (.dup, 1) := by decide +kernel
theorem dX5_readWord_61 : decode cX5_readWord 61 = .ok (.getfield 27, 3) := by decide +kernel
theorem dX5_readWord_64 : decode cX5_readWord 64 = .ok (.iload_n 2, 1) := by decide +kernel
theorem dX5_readWord_65 : decode cX5_readWord 65 = .ok (.iadd, 1) := by decide +kernel
theorem dX5_readWord_66 : decode cX5_readWord 66 = .ok (.putfield 27, 3) := by decide +kernel
theorem dX5_readWord_69 : decode cX5_readWord 69 = .ok (.iconst (-1), 1) := by decide +kernel
theorem dX5_readWord_70 : decode cX5_readWord 70 = .ok (.ireturn, 1) := by decide +kernel
theorem dX5_sameAs_0 : decode cX5_sameAs 0 = .ok (.iconst 0, 1) := by decide +kernel
theorem dX5_sameAs_1 : decode cX5_sameAs 1 = .ok (.istore_n 3, 1) := by decide +kernel
theorem dX5_sameAs_2 : decode cX5_sameAs 2 = .ok (.iload_n 3, 1) := by decide +kernel
theorem dX5_sameAs_3 : decode cX5_sameAs 3 = .ok (.aload_n 1, 1) := by decide +kernel
theorem dX5_sameAs_4 : decode cX5_sameAs 4 = .ok (.invokevirtual 61, 3) := by decide +kernel
theorem dX5_sameAs_7 : decode cX5_sameAs 7 = .ok (.if_icmp .ge 27, 3) := by decide +kernel
theorem dX5_sameAs_10 : decode cX5_sameAs 10 = .ok (.aload_n 2, 1) := by decide +kernel
theorem dX5_sameAs_11 : decode cX5_sameAs 11 = .ok (.aload_n 0, 1) := by decide +kernel
theorem dX5_sameAs_12 : decode cX5_sameAs 12 = .ok (.getfield 27, 3) := by decide +kernel
theorem dX5_sameAs_15 : decode cX5_sameAs 15 = .ok (.iload_n 3, 1) := by decide +kernel
theorem dX5_sameAs_16 : decode cX5_sameAs 16 = .ok (.iadd, 1) := by decide +kernel
theorem dX5_sameAs_17 : decode cX5_sameAs 17 = .ok (.invokevirtual 40, 3) := by decide +kernel
theorem dX5_sameAs_20 : decode cX5_sameAs 20 = .ok (.aload_n 1, 1) := by decide +kernel
theorem dX5_sameAs_21 : decode cX5_sameAs 21 = .ok (.iload_n 3, 1) := by decide +kernel
theorem dX5_sameAs_22 : decode cX5_sameAs 22 = .ok (.invokevirtual 73, 3) := by decide +kernel
theorem dX5_sameAs_25 : decode cX5_sameAs 25 = .ok (.if_icmp .ne 9, 3) := by decide +kernel
theorem dX5_sameAs_28 : decode cX5_sameAs 28 = .ok (.iinc 3 1, 3) := by decide +kernel
theorem dX5_sameAs_31 : decode cX5_sameAs 31 = .ok (.goto (-29), 3) := by decide +kernel
theorem dX5_sameAs_34 : decode cX5_sameAs 34 = .ok (.iload_n 3, 1) := by decide +kernel
theorem dX5_sameAs_35 : decode cX5_sameAs 35 = .ok (.ireturn, 1) := by decide +kernel
theorem dX5_readSign_0 : decode cX5_readSign 0 = .ok (.aload_n 1, 1) := by decide +kernel
theorem dX5_readSign_1 : decode cX5_readSign 1 = .ok (.aload_n 0, 1) := by decide +kernel
theorem dX5_readSign_2 : decode cX5_readSign 2 = .ok (.getfield 27, 3) := by decide +kernel
theorem dX5_readSign_5 : decode cX5_readSign 5 = .ok (.invokevirtual 40, 3) := by decide +kernel
theorem dX5_readSign_8 : decode cX5_readSign 8 = .ok (.istore_n 2, 1) := by decide +kernel
theorem dX5_readSign_9 : decode cX5_readSign 9 = .ok (.iload_n 2, 1) := by decide +kernel
theorem dX5_readSign_10 : decode cX5_readSign 10 = .ok (.bipush 60, 2) := by decide +kernel
theorem dX5_readSign_12 : decode cX5_readSign 12 = .ok (.if_icmp .lt 9, 3) := by decide +kernel
theorem dX5_readSign_15 : decode cX5_readSign 15 = .ok (.iload_n 2, 1) := by decide +kernel
theorem dX5_readSign_16 : decode cX5_readSign 16 = .ok (.bipush 62, 2) := by decide +kernel
theorem dX5_readSign_18 : decode cX5_readSign 18 = .ok (.if_icmp .le 5, 3) := by decide +kernel
theorem dX5_readSign_21 : decode cX5_readSign 21 = .ok (.iconst (-1), 1) := by decide +kernel
theorem dX5_readSign_22 : decode cX5_readSign 22 = .ok (.ireturn, 1) := by decide +kernel
theorem dX5_readSign_23 : decode cX5_readSign 23 = .ok (.aload_n 0, 1) := by decide +kernel
theorem dX5_readSign_24 : decode cX5_readSign 24 = .ok (.dup, 1) := by decide +kernel
theorem dX5_readSign_25 : decode cX5_readSign 25 = .ok (.getfield 27, 3) := by decide +kernel
theorem dX5_readSign_28 : decode cX5_readSign 28 = .ok (.iconst 1, 1) := by decide +kernel
theorem dX5_readSign_29 : decode cX5_readSign 29 = .ok (.iadd, 1) := by decide +kernel
theorem dX5_readSign_30 : decode cX5_readSign 30 = .ok (.putfield 27, 3) := by decide +kernel
theorem dX5_readSign_33 : decode cX5_readSign 33 = .ok (.iload_n 2, 1) := by decide +kernel
theorem dX5_readSign_34 : decode cX5_readSign 34 = .ok (.bipush 60, 2) := by decide +kernel
theorem dX5_readSign_36 : decode cX5_readSign 36 = .ok (.isub, 1) := by decide +kernel
theorem dX5_readSign_37 : decode cX5_readSign 37 = .ok (.ireturn, 1) := by decide +kernel
theorem dX5_readNumber_0 : decode cX5_readNumber 0 = .ok (.aload_n 1, 1) := by decide +kernel
theorem dX5_readNumber_1 : decode cX5_readNumber 1 = .ok (.aload_n 0, 1) := by decide +kernel
theorem dX5_readNumber_2 : decode cX5_readNumber 2 = .ok (.getfield 27, 3) := by decide +kernel
theorem dX5_readNumber_5 : decode cX5_readNumber 5 = .ok (.invokevirtual 77, 3) := by decide +kernel
theorem dX5_readNumber_8 : decode cX5_readNumber 8 = .ok (.ifCond .ne 5, 3) := by decide +kernel
theorem dX5_readNumber_11 : decode cX5_readNumber 11 = .ok (.iconst (-1), 1) := by decide +kernel
theorem dX5_readNumber_12 : decode cX5_readNumber 12 = .ok (.ireturn, 1) := by decide +kernel
theorem dX5_readNumber_13 : decode cX5_readNumber 13 = .ok (.aload_n 1, 1) := by decide +kernel
theorem dX5_readNumber_14 : decode cX5_readNumber 14 = .ok (.aload_n 0, 1) := by decide +kernel
theorem dX5_readNumber_15 : decode cX5_readNumber 15 = .ok (.getfield 27, 3) := by decide +kernel
theorem dX5_readNumber_18 : decode cX5_readNumber 18 = .ok (.invokevirtual 40, 3) := by decide +kernel
theorem dX5_readNumber_21 : decode cX5_readNumber 21 = .ok (.bipush 48, 2) := by decide +kernel
theorem dX5_readNumber_23 : decode cX5_readNumber 23 = .ok (.isub, 1) := by decide +kernel
theorem dX5_readNumber_24 : decode cX5_readNumber 24 = .ok (.istore_n 2, 1) := by decide +kernel
theorem dX5_readNumber_25 : decode cX5_readNumber 25 = .ok (.aload_n 0, 1) := by decide +kernel
theorem dX5_readNumber_26 : decode cX5_readNumber 26 = .ok (.dup, 1) := by decide +kernel
theorem dX5_readNumber_27 : decode cX5_readNumber 27 = .ok (.getfield 27, 3) := by decide +kernel
theorem dX5_readNumber_30 : decode cX5_readNumber 30 = .ok (.iconst 1, 1) := by decide +kernel
theorem dX5_readNumber_31 : decode cX5_readNumber 31 = .ok (.iadd, 1) := by decide +kernel
theorem dX5_readNumber_32 : decode cX5_readNumber 32 = .ok (.putfield 27, 3) := by decide +kernel
theorem dX5_readNumber_35 : decode cX5_readNumber 35 = .ok (.iload_n 2, 1) := by decide +kernel
theorem dX5_readNumber_36 : decode cX5_readNumber 36 = .ok (.ifCond .le 41, 3) := by decide +kernel
theorem dX5_readNumber_39 : decode cX5_readNumber 39 = .ok (.aload_n 1, 1) := by decide +kernel
theorem dX5_readNumber_40 : decode cX5_readNumber 40 = .ok (.aload_n 0, 1) := by decide +kernel
theorem dX5_readNumber_41 : decode cX5_readNumber 41 = .ok (.getfield 27, 3) := by decide +kernel
theorem dX5_readNumber_44 : decode cX5_readNumber 44 = .ok (.invokevirtual 77, 3) := by decide +kernel
theorem dX5_readNumber_47 : decode cX5_readNumber 47 = .ok (.ifCond .eq 30, 3) := by decide +kernel
theorem dX5_readNumber_50 : decode cX5_readNumber 50 = .ok (.bipush 10, 2) := by decide +kernel
theorem dX5_readNumber_52 : decode cX5_readNumber 52 = .ok (.iload_n 2, 1) := by decide +kernel
theorem dX5_readNumber_53 : decode cX5_readNumber 53 = .ok (.imul, 1) := by decide +kernel
theorem dX5_readNumber_54 : decode cX5_readNumber 54 = .ok (.aload_n 1, 1) := by decide +kernel
theorem dX5_readNumber_55 : decode cX5_readNumber 55 = .ok (.aload_n 0, 1) := by decide +kernel
theorem dX5_readNumber_56 : decode cX5_readNumber 56 = .ok (.getfield 27, 3) := by decide +kernel
theorem dX5_readNumber_59 : decode cX5_readNumber 59 = .ok (.invokevirtual 40, 3) := by decide +kernel
theorem dX5_readNumber_62 : decode cX5_readNumber 62 = .ok (.iadd, 1) := by decide +kernel
theorem dX5_readNumber_63 : decode cX5_readNumber 63 = .ok (.bipush 48, 2) := by decide +kernel
theorem dX5_readNumber_65 : decode cX5_readNumber 65 = .ok (.isub, 1) := by decide +kernel
theorem dX5_readNumber_66 : decode cX5_readNumber 66 = .ok (.istore_n 2, 1) := by decide +kernel
theorem dX5_readNumber_67 : decode cX5_readNumber 67 = .ok (.aload_n 0, 1) := by decide +kernel
theorem dX5_readNumber_68 : decode cX5_readNumber 68 = .ok (.dup, 1) := by decide +kernel
theorem dX5_readNumber_69 : decode cX5_readNumber 69 = .ok (.getfield 27, 3) := by decide +kernel
theorem dX5_readNumber_72 : decode cX5_readNumber 72 = .ok (.iconst 1, 1) := by decide +kernel
theorem dX5_readNumber_73 : decode cX5_readNumber 73 = .ok (.iadd, 1) := by decide +kernel
theorem dX5_readNumber_74 : decode cX5_readNumber 74 = .ok (.putfield 27, 3) := by decide +kernel
theorem dX5_readNumber_77 : decode cX5_readNumber 77 = .ok (.iload_n 2, 1) := by decide +kernel
theorem dX5_readNumber_78 : decode cX5_readNumber 78 = .ok (.ireturn, 1) := by decide +kernel
