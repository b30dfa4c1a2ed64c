theorem dX1_init_0 : decode cX1_init 0 = .ok (.aload_n 0, 1) := by decide +kernel
theorem dX1_init_1 : decode cX1_init 1 = .ok (.invokespecial 3, 3) := by decide +kernel
theorem dX1_init_4 : decode cX1_init 4 = .ok (.aload_n 0, 1) := by decide +kernel
theorem dX1_init_5 : decode cX1_init 5 = .ok (.bipush 10, 2) := by decide +kernel
theorem dX1_init_7 : decode cX1_init 7 = .ok (.newarray .int, 2) := by decide +kernel
theorem dX1_init_9 : decode cX1_init 9 = .ok (.putfield 9, 3) := by decide +kernel
theorem dX1_init_12 : decode cX1_init 12 = .ok (.aload_n 0, 1) := by decide +kernel
theorem dX1_init_13 : decode cX1_init 13 = .ok (.bipush 10, 2) := by decide +kernel
theorem dX1_init_15 : decode cX1_init 15 = .ok (.newarray .int, 2) := by decide +kernel
theorem dX1_init_17 : decode cX1_init 17 = .ok (.putfield 15, 3) := by decide +kernel
theorem dX1_init_20 : decode cX1_init 20 = .ok (.aload_n 0, 1) := by decide +kernel
theorem dX1_init_21 : decode cX1_init 21 = .ok (.bipush 30, 2) := by decide +kernel
theorem dX1_init_23 : decode cX1_init 23 = .ok (.newarray .int, 2) := by decide +kernel
theorem dX1_init_25 : decode cX1_init 25 = .ok (.putfield 18, 3) := by decide +kernel
theorem dX1_init_28 : decode cX1_init 28 = .ok (.iconst 0, 1) := by decide +kernel
theorem dX1_init_29 : decode cX1_init 29 = .ok (.istore_n 1, 1) := by decide +kernel
theorem dX1_init_30 : decode cX1_init 30 = .ok (.iload_n 1, 1) := by decide +kernel
theorem dX1_init_31 : decode cX1_init 31 = .ok (.bipush 10, 2) := by decide +kernel
theorem dX1_init_33 : decode cX1_init 33 = .ok (.if_icmp .ge 16, 3) := by decide +kernel
theorem dX1_init_36 : decode cX1_init 36 = .ok (.aload_n 0, 1) := by decide +kernel
theorem dX1_init_37 : decode cX1_init 37 = .ok (.getfield 15, 3) := by decide +kernel
theorem dX1_init_40 : decode cX1_init 40 = .ok (.iload_n 1, 1) := by decide +kernel
theorem dX1_init_41 : decode cX1_init 41 = .ok (.iconst (-1), 1) := by decide +kernel
theorem dX1_init_42 : decode cX1_init 42 = .ok (.iastore, 1) := by decide +kernel
theorem dX1_init_43 : decode cX1_init 43 = .ok (.iinc 1 1, 3) := by decide +kernel
theorem dX1_init_46 : decode cX1_init 46 = .ok (.goto (-16), 3) := by decide +kernel
theorem dX1_init_49 : decode cX1_init 49 = .ok (.return_, 1) := by decide +kernel
theorem dX1_share_0 : decode cX1_share 0 = .ok (.aload_n 0, 1) := by decide +kernel
theorem dX1_share_1 : decode cX1_share 1 = .ok (.iconst 0, 1) := by decide +kernel
theorem dX1_share_2 : decode cX1_share 2 = .ok (.iconst 0, 1) := by decide +kernel
theorem dX1_share_3 : decode cX1_share 3 = .ok (.invokevirtual 21, 3) := by decide +kernel
theorem dX1_share_6 : decode cX1_share 6 = .ok (.istore_n 1, 1) := by decide +kernel
theorem dX1_share_7 : decode cX1_share 7 = .ok (.iload_n 1, 1) := by decide +kernel
theorem dX1_share_8 : decode cX1_share 8 = .ok (.istore_n 2, 1) := by decide +kernel
theorem dX1_share_9 : decode cX1_share 9 = .ok (.iconst 0, 1) := by decide +kernel
theorem dX1_share_10 : decode cX1_share 10 = .ok (.istore_n 3, 1) := by decide +kernel
theorem dX1_share_11 : decode cX1_share 11 = .ok (.iconst 0, 1) := by decide +kernel
theorem dX1_share_12 : decode cX1_share 12 = .ok (.istore 4, 2) := by decide +kernel
theorem dX1_share_14 : decode cX1_share 14 = .ok (.iload 4, 2) := by decide +kernel
theorem dX1_share_16 : decode cX1_share 16 = .ok (.bipush 10, 2) := by decide +kernel
theorem dX1_share_18 : decode cX1_share 18 = .ok (.if_icmp .ge 50, 3) := by decide +kernel
theorem dX1_share_21 : decode cX1_share 21 = .ok (.aload_n 0, 1) := by decide +kernel
theorem dX1_share_22 : decode cX1_share 22 = .ok (.getfield 15, 3) := by decide +kernel
theorem dX1_share_25 : decode cX1_share 25 = .ok (.iload 4, 2) := by decide +kernel
theorem dX1_share_27 : decode cX1_share 27 = .ok (.aload_n 0, 1) := by decide +kernel
theorem dX1_share_28 : decode cX1_share 28 = .ok (.iload 4, 2) := by decide +kernel
theorem dX1_share_30 : decode cX1_share 30 = .ok (.iload_n 3, 1) := by decide +kernel
theorem dX1_share_31 : decode cX1_share 31 = .ok (.iload_n 2, 1) := by decide +kernel
theorem dX1_share_32 : decode cX1_share 32 = .ok (.invokevirtual 25, 3) := by decide +kernel
theorem dX1_share_35 : decode cX1_share 35 = .ok (.iastore, 1) := by decide +kernel
theorem dX1_share_36 : decode cX1_share 36 = .ok (.aload_n 0, 1) := by decide +kernel
theorem dX1_share_37 : decode cX1_share 37 = .ok (.getfield 15, 3) := by decide +kernel
theorem dX1_share_40 : decode cX1_share 40 = .ok (.iload 4, 2) := by decide +kernel
theorem dX1_share_42 : decode cX1_share 42 = .ok (.iaload, 1) := by decide +kernel
theorem dX1_share_43 : decode cX1_share 43 = .ok (.iconst (-1), 1) := by decide +kernel
theorem dX1_share_44 : decode cX1_share 44 = .ok (.if_icmp .eq 18, 3) := by decide +kernel
theorem dX1_share_47 : decode cX1_share 47 = .ok (.iload_n 3, 1) := by decide +kernel
theorem dX1_share_48 : decode cX1_share 48 = .ok (.iconst 1, 1) := by decide +kernel
theorem dX1_share_49 : decode cX1_share 49 = .ok (.aload_n 0, 1) := by decide +kernel
theorem dX1_share_50 : decode cX1_share 50 = .ok (.getfield 15, 3) := by decide +kernel
theorem dX1_share_53 : decode cX1_share 53 = .ok (.iload 4, 2) := by decide +kernel
theorem dX1_share_55 : decode cX1_share 55 = .ok (.iaload, 1) := by decide +kernel
theorem dX1_share_56 : decode cX1_share 56 = .ok (.ishl, 1) := by decide +kernel
theorem dX1_share_57 : decode cX1_share 57 = .ok (.ior, 1) := by decide +kernel
theorem dX1_share_58 : decode cX1_share 58 = .ok (.istore_n 3, 1) := by decide +kernel
theorem dX1_share_59 : decode cX1_share 59 = .ok (.iinc 2 (-1), 3) := by decide +kernel
theorem dX1_share_62 : decode cX1_share 62 = .ok (.iinc 4 1, 3) := by decide +kernel
theorem dX1_share_65 : decode cX1_share 65 = .ok (.goto (-51), 3) := by decide +kernel
theorem dX1_share_68 : decode cX1_share 68 = .ok (.iload_n 1, 1) := by decide +kernel
theorem dX1_share_69 : decode cX1_share 69 = .ok (.ireturn, 1) := by decide +kernel
theorem dX1_leastRobeFor_0 : decode cX1_leastRobeFor 0 = .ok (.iconst 0, 1) := by decide +kernel
theorem dX1_leastRobeFor_1 : decode cX1_leastRobeFor 1 = .ok (.istore 4, 2) := by decide +kernel
theorem dX1_leastRobeFor_3 : decode cX1_leastRobeFor 3 = .ok (.iload 4, 2) := by decide +kernel
theorem dX1_leastRobeFor_5 : decode cX1_leastRobeFor 5 = .ok (.bipush 30, 2) := by decide +kernel
theorem dX1_leastRobeFor_7 : decode cX1_leastRobeFor 7 = .ok (.if_icmp .ge 55, 3) := by decide +kernel
theorem dX1_leastRobeFor_10 : decode cX1_leastRobeFor 10 = .ok (.iload_n 3, 1) := by decide +kernel
theorem dX1_leastRobeFor_11 : decode cX1_leastRobeFor 11 = .ok (.ifCond .le 51, 3) := by decide +kernel
theorem dX1_leastRobeFor_14 : decode cX1_leastRobeFor 14 = .ok (.iconst 1, 1) := by decide +kernel
theorem dX1_leastRobeFor_15 : decode cX1_leastRobeFor 15 = .ok (.iload 4, 2) := by decide +kernel
theorem dX1_leastRobeFor_17 : decode cX1_leastRobeFor 17 = .ok (.ishl, 1) := by decide +kernel
theorem dX1_leastRobeFor_18 : decode cX1_leastRobeFor 18 = .ok (.istore 5, 2) := by decide +kernel
theorem dX1_leastRobeFor_20 : decode cX1_leastRobeFor 20 = .ok (.aload_n 0, 1) := by decide +kernel
theorem dX1_leastRobeFor_21 : decode cX1_leastRobeFor 21 = .ok (.getfield 9, 3) := by decide +kernel
theorem dX1_leastRobeFor_24 : decode cX1_leastRobeFor 24 = .ok (.iload_n 1, 1) := by decide +kernel
theorem dX1_leastRobeFor_25 : decode cX1_leastRobeFor 25 = .ok (.iaload, 1) := by decide +kernel
theorem dX1_leastRobeFor_26 : decode cX1_leastRobeFor 26 = .ok (.iload_n 2, 1) := by decide +kernel
theorem dX1_leastRobeFor_27 : decode cX1_leastRobeFor 27 = .ok (.iconst (-1), 1) := by decide +kernel
theorem dX1_leastRobeFor_28 : decode cX1_leastRobeFor 28 = .ok (.ixor, 1) := by decide +kernel
theorem dX1_leastRobeFor_29 : decode cX1_leastRobeFor 29 = .ok (.iand, 1) := by decide +kernel
theorem dX1_leastRobeFor_30 : decode cX1_leastRobeFor 30 = .ok (.iload 5, 2) := by decide +kernel
theorem dX1_leastRobeFor_32 : decode cX1_leastRobeFor 32 = .ok (.iand, 1) := by decide +kernel
theorem dX1_leastRobeFor_33 : decode cX1_leastRobeFor 33 = .ok (.ifCond .eq 23, 3) := by decide +kernel
theorem dX1_leastRobeFor_36 : decode cX1_leastRobeFor 36 = .ok (.aload_n 0, 1) := by decide +kernel
theorem dX1_leastRobeFor_37 : decode cX1_leastRobeFor 37 = .ok (.iload_n 1, 1) := by decide +kernel
theorem dX1_leastRobeFor_38 : decode cX1_leastRobeFor 38 = .ok (.iconst 1, 1) := by decide +kernel
theorem dX1_leastRobeFor_39 : decode cX1_leastRobeFor 39 = .ok (.iadd, 1) := by decide +kernel
theorem dX1_leastRobeFor_40 : decode cX1_leastRobeFor 40 = .ok (.iload_n 2, 1) := by decide +kernel
theorem dX1_leastRobeFor_41 : decode cX1_leastRobeFor 41 = .ok (.iload 5, 2) := by decide +kernel
theorem dX1_leastRobeFor_43 : decode cX1_leastRobeFor 43 = .ok (.ior, 1) := by decide +kernel
theorem dX1_leastRobeFor_44 : decode cX1_leastRobeFor 44 = .ok (.invokevirtual 21, 3) := by decide +kernel
theorem dX1_leastRobeFor_47 : decode cX1_leastRobeFor 47 = .ok (.iload_n 3, 1) := by decide +kernel
theorem dX1_leastRobeFor_48 : decode cX1_leastRobeFor 48 = .ok (.iconst 1, 1) := by decide +kernel
theorem dX1_leastRobeFor_49 : decode cX1_leastRobeFor 49 = .ok (.isub, 1) := by decide +kernel
theorem dX1_leastRobeFor_50 : decode cX1_leastRobeFor 50 = .ok (.if_icmp .ne 6, 3) := by decide +kernel
theorem dX1_leastRobeFor_53 : decode cX1_leastRobeFor 53 = .ok (.iload 4, 2) := by decide +kernel
theorem dX1_leastRobeFor_55 : decode cX1_leastRobeFor 55 = .ok (.ireturn, 1) := by decide +kernel
theorem dX1_leastRobeFor_56 : decode cX1_leastRobeFor 56 = .ok (.iinc 4 1, 3) := by decide +kernel
theorem dX1_leastRobeFor_59 : decode cX1_leastRobeFor 59 = .ok (.goto (-56), 3) := by decide +kernel
theorem dX1_leastRobeFor_62 : decode cX1_leastRobeFor 62 = .ok (.iconst (-1), 1) := by decide +kernel
theorem dX1_leastRobeFor_63 : decode cX1_leastRobeFor 63 = .ok (.ireturn, 1) := by decide +kernel
theorem dX1_mostFrom_0 : decode cX1_mostFrom 0 = .ok (.aload_n 0, 1) := by decide +kernel
theorem dX1_mostFrom_1 : decode cX1_mostFrom 1 = .ok (.getfield 18, 3) := by decide +kernel
theorem dX1_mostFrom_4 : decode cX1_mostFrom 4 = .ok (.iconst (-1), 1) := by decide +kernel
theorem dX1_mostFrom_5 : decode cX1_mostFrom 5 = .ok (.invokestatic 29, 3) := by decide +kernel
theorem dX1_mostFrom_8 : decode cX1_mostFrom 8 = .ok (.iconst 0, 1) := by decide +kernel
theorem dX1_mostFrom_9 : decode cX1_mostFrom 9 = .ok (.istore_n 3, 1) := by decide +kernel
theorem dX1_mostFrom_10 : decode cX1_mostFrom 10 = .ok (.iload_n 1, 1) := by decide +kernel
theorem dX1_mostFrom_11 : decode cX1_mostFrom 11 = .ok (.istore 4, 2) := by decide +kernel
theorem dX1_mostFrom_13 : decode cX1_mostFrom 13 = .ok (.iload 4, 2) := by decide +kernel
theorem dX1_mostFrom_15 : decode cX1_mostFrom 15 = .ok (.bipush 10, 2) := by decide +kernel
theorem dX1_mostFrom_17 : decode cX1_mostFrom 17 = .ok (.if_icmp .ge 27, 3) := by decide +kernel
theorem dX1_mostFrom_20 : decode cX1_mostFrom 20 = .ok (.aload_n 0, 1) := by decide +kernel
theorem dX1_mostFrom_21 : decode cX1_mostFrom 21 = .ok (.iload_n 2, 1) := by decide +kernel
theorem dX1_mostFrom_22 : decode cX1_mostFrom 22 = .ok (.putfield 35, 3) := by decide +kernel
theorem dX1_mostFrom_25 : decode cX1_mostFrom 25 = .ok (.aload_n 0, 1) := by decide +kernel
theorem dX1_mostFrom_26 : decode cX1_mostFrom 26 = .ok (.iload 4, 2) := by decide +kernel
theorem dX1_mostFrom_28 : decode cX1_mostFrom 28 = .ok (.iconst 0, 1) := by decide +kernel
theorem dX1_mostFrom_29 : decode cX1_mostFrom 29 = .ok (.invokevirtual 39, 3) := by decide +kernel
theorem dX1_mostFrom_32 : decode cX1_mostFrom 32 = .ok (.ifCond .eq 6, 3) := by decide +kernel
theorem dX1_mostFrom_35 : decode cX1_mostFrom 35 = .ok (.iinc 3 1, 3) := by decide +kernel
theorem dX1_mostFrom_38 : decode cX1_mostFrom 38 = .ok (.iinc 4 1, 3) := by decide +kernel
theorem dX1_mostFrom_41 : decode cX1_mostFrom 41 = .ok (.goto (-28), 3) := by decide +kernel
theorem dX1_mostFrom_44 : decode cX1_mostFrom 44 = .ok (.iload_n 3, 1) := by decide +kernel
theorem dX1_mostFrom_45 : decode cX1_mostFrom 45 = .ok (.ireturn, 1) := by decide +kernel
theorem dX1_findRobe_0 : decode cX1_findRobe 0 = .ok (.iload_n 2, 1) := by decide +kernel
theorem dX1_findRobe_1 : decode cX1_findRobe 1 = .ok (.bipush 10, 2) := by decide +kernel
theorem dX1_findRobe_3 : decode cX1_findRobe 3 = .ok (.if_icmp .ge 13, 3) := by decide +kernel
theorem dX1_findRobe_6 : decode cX1_findRobe 6 = .ok (.iload_n 1, 1) := by decide +kernel
theorem dX1_findRobe_7 : decode cX1_findRobe 7 = .ok (.ifCond .lt 9, 3) := by decide +kernel
theorem dX1_findRobe_10 : decode cX1_findRobe 10 = .ok (.iload_n 1, 1) := by decide +kernel
theorem dX1_findRobe_11 : decode cX1_findRobe 11 = .ok (.bipush 10, 2) := by decide +kernel
theorem dX1_findRobe_13 : decode cX1_findRobe 13 = .ok (.if_icmp .lt 5, 3) := by decide +kernel
theorem dX1_findRobe_16 : decode cX1_findRobe 16 = .ok (.iconst 0, 1) := by decide +kernel
theorem dX1_findRobe_17 : decode cX1_findRobe 17 = .ok (.ireturn, 1) := by decide +kernel
theorem dX1_findRobe_18 : decode cX1_findRobe 18 = .ok (.iconst 0, 1) := by decide +kernel
theorem dX1_findRobe_19 : decode cX1_findRobe 19 = .ok (.istore_n 3, 1) := by decide +kernel
theorem dX1_findRobe_20 : decode cX1_findRobe 20 = .ok (.iload_n 3, 1) := by decide +kernel
theorem dX1_findRobe_21 : decode cX1_findRobe 21 = .ok (.bipush 30, 2) := by decide +kernel
theorem dX1_findRobe_23 : decode cX1_findRobe 23 = .ok (.if_icmp .ge 79, 3) := by decide +kernel
theorem dX1_findRobe_26 : decode cX1_findRobe 26 = .ok (.iconst 1, 1) := by decide +kernel
theorem dX1_findRobe_27 : decode cX1_findRobe 27 = .ok (.iload_n 3, 1) := by decide +kernel
theorem dX1_findRobe_28 : decode cX1_findRobe 28 = .ok (.ishl, 1) := by decide +kernel
theorem dX1_findRobe_29 : decode cX1_findRobe 29 = .ok (.istore 4, 2) := by decide +kernel
theorem dX1_findRobe_31 : decode cX1_findRobe 31 = .ok (.aload_n 0, 1) := by decide +kernel
theorem dX1_findRobe_32 : decode cX1_findRobe 32 = .ok (.getfield 9, 3) := by decide +kernel
theorem dX1_findRobe_35 : decode cX1_findRobe 35 = .ok (.iload_n 1, 1) := by decide +kernel
theorem dX1_findRobe_36 : decode cX1_findRobe 36 = .ok (.iaload, 1) := by decide +kernel
theorem dX1_findRobe_37 : decode cX1_findRobe 37 = .ok (.aload_n 0, 1) := by decide +kernel
theorem dX1_findRobe_38 : decode cX1_findRobe 38 = .ok (.getfield 35, 3) := by decide +kernel
theorem dX1_findRobe_41 : decode cX1_findRobe 41 = .ok (.iconst (-1), 1) := by decide +kernel
theorem dX1_findRobe_42 : decode cX1_findRobe 42 = .ok (.ixor, 1) := by decide +kernel
theorem dX1_findRobe_43 : decode cX1_findRobe 43 = .ok (.iand, 1) := by decide +kernel
theorem dX1_findRobe_44 : decode cX1_findRobe 44 = .ok (.iload 4, 2) := by decide +kernel
theorem dX1_findRobe_46 : decode cX1_findRobe 46 = .ok (.iand, 1) := by decide +kernel
theorem dX1_findRobe_47 : decode cX1_findRobe 47 = .ok (.ifCond .eq 49, 3) := by decide +kernel
theorem dX1_findRobe_50 : decode cX1_findRobe 50 = .ok (.aload_n 0, 1) := by decide +kernel
theorem dX1_findRobe_51 : decode cX1_findRobe 51 = .ok (.dup, 1) := by decide +kernel
theorem dX1_findRobe_52 : decode cX1_findRobe 52 = .ok (.getfield 35, 3) := by decide +kernel
theorem dX1_findRobe_55 : decode cX1_findRobe 55 = .ok (.iload 4, 2) := by decide +kernel
theorem dX1_findRobe_57 : decode cX1_findRobe 57 = .ok (.ior, 1) := by decide +kernel
theorem dX1_findRobe_58 : decode cX1_findRobe 58 = .ok (.putfield 35, 3) := by decide +kernel
theorem dX1_findRobe_61 : decode cX1_findRobe 61 = .ok (.aload_n 0, 1) := by decide +kernel
theorem dX1_findRobe_62 : decode cX1_findRobe 62 = .ok (.getfield 18, 3) := by decide +kernel
theorem dX1_findRobe_65 : decode cX1_findRobe 65 = .ok (.iload_n 3, 1) := by decide +kernel
theorem dX1_findRobe_66 : decode cX1_findRobe 66 = .ok (.iaload, 1) := by decide +kernel
theorem dX1_findRobe_67 : decode cX1_findRobe 67 = .ok (.iconst (-1), 1) := by decide +kernel
theorem dX1_findRobe_68 : decode cX1_findRobe 68 = .ok (.if_icmp .eq 19, 3) := by decide +kernel
theorem dX1_findRobe_71 : decode cX1_findRobe 71 = .ok (.aload_n 0, 1) := by decide +kernel
theorem dX1_findRobe_72 : decode cX1_findRobe 72 = .ok (.aload_n 0, 1) := by decide +kernel
theorem dX1_findRobe_73 : decode cX1_findRobe 73 = .ok (.getfield 18, 3) := by decide +kernel
theorem dX1_findRobe_76 : decode cX1_findRobe 76 = .ok (.iload_n 3, 1) := by decide +kernel
theorem dX1_findRobe_77 : decode cX1_findRobe 77 = .ok (.iaload, 1) := by decide +kernel
theorem dX1_findRobe_78 : decode cX1_findRobe 78 = .ok (.iload_n 2, 1) := by decide +kernel
theorem dX1_findRobe_79 : decode cX1_findRobe 79 = .ok (.iconst 1, 1) := by decide +kernel
theorem dX1_findRobe_80 : decode cX1_findRobe 80 = .ok (.iadd, 1) := by decide +kernel
theorem dX1_findRobe_81 : decode cX1_findRobe 81 = .ok (.invokevirtual 39, 3) := by decide +kernel
theorem dX1_findRobe_84 : decode cX1_findRobe 84 = .ok (.ifCond .eq 12, 3) := by decide +kernel
theorem dX1_findRobe_87 : decode cX1_findRobe 87 = .ok (.aload_n 0, 1) := by decide +kernel
theorem dX1_findRobe_88 : decode cX1_findRobe 88 = .ok (.getfield 18, 3) := by decide +kernel
theorem dX1_findRobe_91 : decode cX1_findRobe 91 = .ok (.iload_n 3, 1) := by decide +kernel
theorem dX1_findRobe_92 : decode cX1_findRobe 92 = .ok (.iload_n 1, 1) := by decide +kernel
theorem dX1_findRobe_93 : decode cX1_findRobe 93 = .ok (.iastore, 1) := by decide +kernel
theorem dX1_findRobe_94 : decode cX1_findRobe 94 = .ok (.iconst 1, 1) := by decide +kernel
theorem dX1_findRobe_95 : decode cX1_findRobe 95 = .ok (.ireturn, 1) := by decide +kernel
theorem dX1_findRobe_96 : decode cX1_findRobe 96 = .ok (.iinc 3 1, 3) := by decide +kernel
theorem dX1_findRobe_99 : decode cX1_findRobe 99 = .ok (.goto (-79), 3) := by decide +kernel
theorem dX1_findRobe_102 : decode cX1_findRobe 102 = .ok (.iconst 0, 1) := by decide +kernel
theorem dX1_findRobe_103 : decode cX1_findRobe 103 = .ok (.ireturn, 1) := by decide +kernel
