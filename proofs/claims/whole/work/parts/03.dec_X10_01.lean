theorem dX10_set_18 : decode cX10_set 18 = .ok (.ifCond .ne 6, 3) := by decide +kernel
theorem dX10_set_21 : decode cX10_set 21 = .ok (.bipush (-2), 2) := by decide +kernel
theorem dX10_set_23 : decode cX10_set 23 = .ok (.ireturn, 1) := by decide +kernel
theorem dX10_set_24 : decode cX10_set 24 = .ok (.iload_n 1, 1) := by decide +kernel
theorem dX10_set_25 : decode cX10_set 25 = .ok (.ifCond .ne 10, 3) := by decide +kernel
theorem dX10_set_28 : decode cX10_set 28 = .ok (.aload_n 0, 1) := by decide +kernel
theorem dX10_set_29 : decode cX10_set 29 = .ok (.getfield 165, 3) := by decide +kernel
theorem dX10_set_32 : decode cX10_set 32 = .ok (.goto 7, 3) := by decide +kernel
theorem dX10_set_35 : decode cX10_set 35 = .ok (.aload_n 0, 1) := by decide +kernel
theorem dX10_set_36 : decode cX10_set 36 = .ok (.getfield 78, 3) := by decide +kernel
theorem dX10_set_39 : decode cX10_set 39 = .ok (.istore_n 3, 1) := by decide +kernel
theorem dX10_set_40 : decode cX10_set 40 = .ok (.iload_n 1, 1) := by decide +kernel
theorem dX10_set_41 : decode cX10_set 41 = .ok (.ifCond .ne 11, 3) := by decide +kernel
theorem dX10_set_44 : decode cX10_set 44 = .ok (.aload_n 0, 1) := by decide +kernel
theorem dX10_set_45 : decode cX10_set 45 = .ok (.iload_n 2, 1) := by decide +kernel
theorem dX10_set_46 : decode cX10_set 46 = .ok (.putfield 165, 3) := by decide +kernel
theorem dX10_set_49 : decode cX10_set 49 = .ok (.goto 8, 3) := by decide +kernel
theorem dX10_set_52 : decode cX10_set 52 = .ok (.aload_n 0, 1) := by decide +kernel
theorem dX10_set_53 : decode cX10_set 53 = .ok (.iload_n 2, 1) := by decide +kernel
theorem dX10_set_54 : decode cX10_set 54 = .ok (.putfield 78, 3) := by decide +kernel
theorem dX10_set_57 : decode cX10_set 57 = .ok (.iload_n 3, 1) := by decide +kernel
theorem dX10_set_58 : decode cX10_set 58 = .ok (.ireturn, 1) := by decide +kernel
theorem dX10_sleeveOf_0 : decode cX10_sleeveOf 0 = .ok (.aload_n 0, 1) := by decide +kernel
theorem dX10_sleeveOf_1 : decode cX10_sleeveOf 1 = .ok (.getfield 13, 3) := by decide +kernel
theorem dX10_sleeveOf_4 : decode cX10_sleeveOf 4 = .ok (.iload_n 1, 1) := by decide +kernel
theorem dX10_sleeveOf_5 : decode cX10_sleeveOf 5 = .ok (.iaload, 1) := by decide +kernel
theorem dX10_sleeveOf_6 : decode cX10_sleeveOf 6 = .ok (.iconst 2, 1) := by decide +kernel
theorem dX10_sleeveOf_7 : decode cX10_sleeveOf 7 = .ok (.aload_n 0, 1) := by decide +kernel
theorem dX10_sleeveOf_8 : decode cX10_sleeveOf 8 = .ok (.getfield 68, 3) := by decide +kernel
theorem dX10_sleeveOf_11 : decode cX10_sleeveOf 11 = .ok (.imul, 1) := by decide +kernel
theorem dX10_sleeveOf_12 : decode cX10_sleeveOf 12 = .ok (.isub, 1) := by decide +kernel
theorem dX10_sleeveOf_13 : decode cX10_sleeveOf 13 = .ok (.aload_n 0, 1) := by decide +kernel
theorem dX10_sleeveOf_14 : decode cX10_sleeveOf 14 = .ok (.getfield 72, 3) := by decide +kernel
theorem dX10_sleeveOf_17 : decode cX10_sleeveOf 17 = .ok (.isub, 1) := by decide +kernel
theorem dX10_sleeveOf_18 : decode cX10_sleeveOf 18 = .ok (.aload_n 0, 1) := by decide +kernel
theorem dX10_sleeveOf_19 : decode cX10_sleeveOf 19 = .ok (.getfield 75, 3) := by decide +kernel
theorem dX10_sleeveOf_22 : decode cX10_sleeveOf 22 = .ok (.isub, 1) := by decide +kernel
theorem dX10_sleeveOf_23 : decode cX10_sleeveOf 23 = .ok (.istore_n 2, 1) := by decide +kernel
theorem dX10_sleeveOf_24 : decode cX10_sleeveOf 24 = .ok (.iload_n 2, 1) := by decide +kernel
theorem dX10_sleeveOf_25 : decode cX10_sleeveOf 25 = .ok (.iconst 2, 1) := by decide +kernel
theorem dX10_sleeveOf_26 : decode cX10_sleeveOf 26 = .ok (.if_icmp .lt 9, 3) := by decide +kernel
theorem dX10_sleeveOf_29 : decode cX10_sleeveOf 29 = .ok (.iload_n 2, 1) := by decide +kernel
theorem dX10_sleeveOf_30 : decode cX10_sleeveOf 30 = .ok (.iconst 2, 1) := by decide +kernel
theorem dX10_sleeveOf_31 : decode cX10_sleeveOf 31 = .ok (.irem, 1) := by decide +kernel
theorem dX10_sleeveOf_32 : decode cX10_sleeveOf 32 = .ok (.ifCond .eq 8, 3) := by decide +kernel
theorem dX10_sleeveOf_35 : decode cX10_sleeveOf 35 = .ok (.bipush (-3), 2) := by decide +kernel
theorem dX10_sleeveOf_37 : decode cX10_sleeveOf 37 = .ok (.goto 6, 3) := by decide +kernel
theorem dX10_sleeveOf_40 : decode cX10_sleeveOf 40 = .ok (.iload_n 2, 1) := by decide +kernel
theorem dX10_sleeveOf_41 : decode cX10_sleeveOf 41 = .ok (.iconst 2, 1) := by decide +kernel
theorem dX10_sleeveOf_42 : decode cX10_sleeveOf 42 = .ok (.idiv, 1) := by decide +kernel
theorem dX10_sleeveOf_43 : decode cX10_sleeveOf 43 = .ok (.ireturn, 1) := by decide +kernel
theorem dX10_sleeves_0 : decode cX10_sleeves 0 = .ok (.aload_n 0, 1) := by decide +kernel
theorem dX10_sleeves_1 : decode cX10_sleeves 1 = .ok (.iload_n 1, 1) := by decide +kernel
theorem dX10_sleeves_2 : decode cX10_sleeves 2 = .ok (.invokevirtual 157, 3) := by decide +kernel
theorem dX10_sleeves_5 : decode cX10_sleeves 5 = .ok (.ifCond .eq 11, 3) := by decide +kernel
theorem dX10_sleeves_8 : decode cX10_sleeves 8 = .ok (.aload_n 0, 1) := by decide +kernel
theorem dX10_sleeves_9 : decode cX10_sleeves 9 = .ok (.iload_n 1, 1) := by decide +kernel
theorem dX10_sleeves_10 : decode cX10_sleeves 10 = .ok (.invokevirtual 168, 3) := by decide +kernel
theorem dX10_sleeves_13 : decode cX10_sleeves 13 = .ok (.goto 4, 3) := by decide +kernel
theorem dX10_sleeves_16 : decode cX10_sleeves 16 = .ok (.iconst (-1), 1) := by decide +kernel
theorem dX10_sleeves_17 : decode cX10_sleeves 17 = .ok (.ireturn, 1) := by decide +kernel
theorem dX10_lengths_0 : decode cX10_lengths 0 = .ok (.aload_n 0, 1) := by decide +kernel
theorem dX10_lengths_1 : decode cX10_lengths 1 = .ok (.getfield 96, 3) := by decide +kernel
theorem dX10_lengths_4 : decode cX10_lengths 4 = .ok (.iconst 0, 1) := by decide +kernel
theorem dX10_lengths_5 : decode cX10_lengths 5 = .ok (.iload_n 1, 1) := by decide +kernel
theorem dX10_lengths_6 : decode cX10_lengths 6 = .ok (.iastore, 1) := by decide +kernel
theorem dX10_lengths_7 : decode cX10_lengths 7 = .ok (.aload_n 0, 1) := by decide +kernel
theorem dX10_lengths_8 : decode cX10_lengths 8 = .ok (.getfield 96, 3) := by decide +kernel
theorem dX10_lengths_11 : decode cX10_lengths 11 = .ok (.iconst 1, 1) := by decide +kernel
theorem dX10_lengths_12 : decode cX10_lengths 12 = .ok (.iload_n 1, 1) := by decide +kernel
theorem dX10_lengths_13 : decode cX10_lengths 13 = .ok (.iastore, 1) := by decide +kernel
theorem dX10_lengths_14 : decode cX10_lengths 14 = .ok (.aload_n 0, 1) := by decide +kernel
theorem dX10_lengths_15 : decode cX10_lengths 15 = .ok (.getfield 96, 3) := by decide +kernel
theorem dX10_lengths_18 : decode cX10_lengths 18 = .ok (.iconst 2, 1) := by decide +kernel
theorem dX10_lengths_19 : decode cX10_lengths 19 = .ok (.iload_n 2, 1) := by decide +kernel
theorem dX10_lengths_20 : decode cX10_lengths 20 = .ok (.iastore, 1) := by decide +kernel
theorem dX10_lengths_21 : decode cX10_lengths 21 = .ok (.aload_n 0, 1) := by decide +kernel
theorem dX10_lengths_22 : decode cX10_lengths 22 = .ok (.getfield 96, 3) := by decide +kernel
theorem dX10_lengths_25 : decode cX10_lengths 25 = .ok (.iconst 3, 1) := by decide +kernel
theorem dX10_lengths_26 : decode cX10_lengths 26 = .ok (.iload_n 2, 1) := by decide +kernel
theorem dX10_lengths_27 : decode cX10_lengths 27 = .ok (.iastore, 1) := by decide +kernel
theorem dX10_lengths_28 : decode cX10_lengths 28 = .ok (.aload_n 0, 1) := by decide +kernel
theorem dX10_lengths_29 : decode cX10_lengths 29 = .ok (.getfield 96, 3) := by decide +kernel
theorem dX10_lengths_32 : decode cX10_lengths 32 = .ok (.iconst 4, 1) := by decide +kernel
theorem dX10_lengths_33 : decode cX10_lengths 33 = .ok (.iload_n 3, 1) := by decide +kernel
theorem dX10_lengths_34 : decode cX10_lengths 34 = .ok (.iastore, 1) := by decide +kernel
theorem dX10_lengths_35 : decode cX10_lengths 35 = .ok (.aload_n 0, 1) := by decide +kernel
theorem dX10_lengths_36 : decode cX10_lengths 36 = .ok (.getfield 96, 3) := by decide +kernel
theorem dX10_lengths_39 : decode cX10_lengths 39 = .ok (.iconst 5, 1) := by decide +kernel
theorem dX10_lengths_40 : decode cX10_lengths 40 = .ok (.iload 4, 2) := by decide +kernel
theorem dX10_lengths_42 : decode cX10_lengths 42 = .ok (.iastore, 1) := by decide +kernel
theorem dX10_lengths_43 : decode cX10_lengths 43 = .ok (.iconst 0, 1) := by decide +kernel
theorem dX10_lengths_44 : decode cX10_lengths 44 = .ok (.istore 5, 2) := by decide +kernel
theorem dX10_lengths_46 : decode cX10_lengths 46 = .ok (.iconst 0, 1) := by decide +kernel
theorem dX10_lengths_47 : decode cX10_lengths 47 = .ok (.istore 6, 2) := by decide +kernel
theorem dX10_lengths_49 : decode cX10_lengths 49 = .ok (.iload 6, 2) := by decide +kernel
theorem dX10_lengths_51 : decode cX10_lengths 51 = .ok (.bipush 6, 2) := by decide +kernel
theorem dX10_lengths_53 : decode cX10_lengths 53 = .ok (.if_icmp .ge 30, 3) := by decide +kernel
theorem dX10_lengths_56 : decode cX10_lengths 56 = .ok (.aload_n 0, 1) := by decide +kernel
theorem dX10_lengths_57 : decode cX10_lengths 57 = .ok (.getfield 99, 3) := by decide +kernel
theorem dX10_lengths_60 : decode cX10_lengths 60 = .ok (.iload 6, 2) := by decide +kernel
theorem dX10_lengths_62 : decode cX10_lengths 62 = .ok (.iload 5, 2) := by decide +kernel
theorem dX10_lengths_64 : decode cX10_lengths 64 = .ok (.iastore, 1) := by decide +kernel
theorem dX10_lengths_65 : decode cX10_lengths 65 = .ok (.iload 5, 2) := by decide +kernel
theorem dX10_lengths_67 : decode cX10_lengths 67 = .ok (.aload_n 0, 1) := by decide +kernel
theorem dX10_lengths_68 : decode cX10_lengths 68 = .ok (.getfield 96, 3) := by decide +kernel
theorem dX10_lengths_71 : decode cX10_lengths 71 = .ok (.iload 6, 2) := by decide +kernel
theorem dX10_lengths_73 : decode cX10_lengths 73 = .ok (.iaload, 1) := by decide +kernel
theorem dX10_lengths_74 : decode cX10_lengths 74 = .ok (.iadd, 1) := by decide +kernel
theorem dX10_lengths_75 : decode cX10_lengths 75 = .ok (.istore 5, 2) := by decide +kernel
theorem dX10_lengths_77 : decode cX10_lengths 77 = .ok (.iinc 6 1, 3) := by decide +kernel
theorem dX10_lengths_80 : decode cX10_lengths 80 = .ok (.goto (-31), 3) := by decide +kernel
theorem dX10_lengths_83 : decode cX10_lengths 83 = .ok (.return_, 1) := by decide +kernel
theorem dX10_missOf_0 : decode cX10_missOf 0 = .ok (.aload_n 0, 1) := by decide +kernel
theorem dX10_missOf_1 : decode cX10_missOf 1 = .ok (.getfield 102, 3) := by decide +kernel
theorem dX10_missOf_4 : decode cX10_missOf 4 = .ok (.aload_n 0, 1) := by decide +kernel
theorem dX10_missOf_5 : decode cX10_missOf 5 = .ok (.getfield 99, 3) := by decide +kernel
theorem dX10_missOf_8 : decode cX10_missOf 8 = .ok (.iload_n 1, 1) := by decide +kernel
theorem dX10_missOf_9 : decode cX10_missOf 9 = .ok (.iaload, 1) := by decide +kernel
theorem dX10_missOf_10 : decode cX10_missOf 10 = .ok (.iload_n 2, 1) := by decide +kernel
theorem dX10_missOf_11 : decode cX10_missOf 11 = .ok (.iadd, 1) := by decide +kernel
theorem dX10_missOf_12 : decode cX10_missOf 12 = .ok (.iaload, 1) := by decide +kernel
theorem dX10_missOf_13 : decode cX10_missOf 13 = .ok (.bipush 10, 2) := by decide +kernel
theorem dX10_missOf_15 : decode cX10_missOf 15 = .ok (.irem, 1) := by decide +kernel
theorem dX10_missOf_16 : decode cX10_missOf 16 = .ok (.aload_n 0, 1) := by decide +kernel
theorem dX10_missOf_17 : decode cX10_missOf 17 = .ok (.getfield 102, 3) := by decide +kernel
theorem dX10_missOf_20 : decode cX10_missOf 20 = .ok (.aload_n 0, 1) := by decide +kernel
theorem dX10_missOf_21 : decode cX10_missOf 21 = .ok (.getfield 99, 3) := by decide +kernel
theorem dX10_missOf_24 : decode cX10_missOf 24 = .ok (.iload_n 3, 1) := by decide +kernel
theorem dX10_missOf_25 : decode cX10_missOf 25 = .ok (.iaload, 1) := by decide +kernel
theorem dX10_missOf_26 : decode cX10_missOf 26 = .ok (.iload 4, 2) := by decide +kernel
theorem dX10_missOf_28 : decode cX10_missOf 28 = .ok (.iadd, 1) := by decide +kernel
theorem dX10_missOf_29 : decode cX10_missOf 29 = .ok (.iaload, 1) := by decide +kernel
theorem dX10_missOf_30 : decode cX10_missOf 30 = .ok (.bipush 10, 2) := by decide +kernel
theorem dX10_missOf_32 : decode cX10_missOf 32 = .ok (.irem, 1) := by decide +kernel
theorem dX10_missOf_33 : decode cX10_missOf 33 = .ok (.isub, 1) := by decide +kernel
theorem dX10_missOf_34 : decode cX10_missOf 34 = .ok (.istore 5, 2) := by decide +kernel
theorem dX10_missOf_36 : decode cX10_missOf 36 = .ok (.iload 5, 2) := by decide +kernel
theorem dX10_missOf_38 : decode cX10_missOf 38 = .ok (.ifCond .ge 9, 3) := by decide +kernel
theorem dX10_missOf_41 : decode cX10_missOf 41 = .ok (.iload 5, 2) := by decide +kernel
theorem dX10_missOf_43 : decode cX10_missOf 43 = .ok (.ineg, 1) := by decide +kernel
theorem dX10_missOf_44 : decode cX10_missOf 44 = .ok (.goto 5, 3) := by decide +kernel
theorem dX10_missOf_47 : decode cX10_missOf 47 = .ok (.iload 5, 2) := by decide +kernel
theorem dX10_missOf_49 : decode cX10_missOf 49 = .ok (.istore 5, 2) := by decide +kernel
theorem dX10_missOf_51 : decode cX10_missOf 51 = .ok (.iload 5, 2) := by decide +kernel
theorem dX10_missOf_53 : decode cX10_missOf 53 = .ok (.iconst 5, 1) := by decide +kernel
theorem dX10_missOf_54 : decode cX10_missOf 54 = .ok (.if_icmp .le 11, 3) := by decide +kernel
theorem dX10_missOf_57 : decode cX10_missOf 57 = .ok (.bipush 10, 2) := by decide +kernel
theorem dX10_missOf_59 : decode cX10_missOf 59 = .ok (.iload 5, 2) := by decide +kernel
theorem dX10_missOf_61 : decode cX10_missOf 61 = .ok (.isub, 1) := by decide +kernel
theorem dX10_missOf_62 : decode cX10_missOf 62 = .ok (.goto 5, 3) := by decide +kernel
theorem dX10_missOf_65 : decode cX10_missOf 65 = .ok (.iload 5, 2) := by decide +kernel
theorem dX10_missOf_67 : decode cX10_missOf 67 = .ok (.aload_n 0, 1) := by decide +kernel
theorem dX10_missOf_68 : decode cX10_missOf 68 = .ok (.getfield 165, 3) := by decide +kernel
theorem dX10_missOf_71 : decode cX10_missOf 71 = .ok (.if_icmp .le 7, 3) := by decide +kernel
theorem dX10_missOf_74 : decode cX10_missOf 74 = .ok (.iconst 1, 1) := by decide +kernel
theorem dX10_missOf_75 : decode cX10_missOf 75 = .ok (.goto 4, 3) := by decide +kernel
theorem dX10_missOf_78 : decode cX10_missOf 78 = .ok (.iconst 0, 1) := by decide +kernel
theorem dX10_missOf_79 : decode cX10_missOf 79 = .ok (.ireturn, 1) := by decide +kernel
theorem dX10_seam_0 : decode cX10_seam 0 = .ok (.iconst 0, 1) := by decide +kernel
theorem dX10_seam_1 : decode cX10_seam 1 = .ok (.istore_n 2, 1) := by decide +kernel
theorem dX10_seam_2 : decode cX10_seam 2 = .ok (.iload_n 1, 1) := by decide +kernel
theorem dX10_seam_3 : decode cX10_seam 3 = .ok (.tableswitch 157 0 3 #[29, 60, 60, 107], 29) := by decide +kernel
theorem dX10_seam_32 : decode cX10_seam 32 = .ok (.iconst 0, 1) := by decide +kernel
theorem dX10_seam_33 : decode cX10_seam 33 = .ok (.istore_n 3, 1) := by decide +kernel
theorem dX10_seam_34 : decode cX10_seam 34 = .ok (.iload_n 3, 1) := by decide +kernel
theorem dX10_seam_35 : decode cX10_seam 35 = .ok (.aload_n 0, 1) := by decide +kernel
theorem dX10_seam_36 : decode cX10_seam 36 = .ok (.getfield 96, 3) := by decide +kernel
theorem dX10_seam_39 : decode cX10_seam 39 = .ok (.iconst 0, 1) := by decide +kernel
theorem dX10_seam_40 : decode cX10_seam 40 = .ok (.iaload, 1) := by decide +kernel
theorem dX10_seam_41 : decode cX10_seam 41 = .ok (.if_icmp .ge 20, 3) := by decide +kernel
theorem dX10_seam_44 : decode cX10_seam 44 = .ok (.iload_n 2, 1) := by decide +kernel
theorem dX10_seam_45 : decode cX10_seam 45 = .ok (.aload_n 0, 1) := by decide +kernel
theorem dX10_seam_46 : decode cX10_seam 46 = .ok (.iconst 0, 1) := by decide +kernel
theorem dX10_seam_47 : decode cX10_seam 47 = .ok (.iload_n 3, 1) := by decide +kernel
theorem dX10_seam_48 : decode cX10_seam 48 = .ok (.iconst 1, 1) := by decide +kernel
theorem dX10_seam_49 : decode cX10_seam 49 = .ok (.iload_n 3, 1) := by decide +kernel
theorem dX10_seam_50 : decode cX10_seam 50 = .ok (.invokevirtual 172, 3) := by decide +kernel
theorem dX10_seam_53 : decode cX10_seam 53 = .ok (.iadd, 1) := by decide +kernel
theorem dX10_seam_54 : decode cX10_seam 54 = .ok (.istore_n 2, 1) := by decide +kernel
theorem dX10_seam_55 : decode cX10_seam 55 = .ok (.iinc 3 1, 3) := by decide +kernel
theorem dX10_seam_58 : decode cX10_seam 58 = .ok (.goto (-24), 3) := by decide +kernel
theorem dX10_seam_61 : decode cX10_seam 61 = .ok (.iload_n 2, 1) := by decide +kernel
theorem dX10_seam_62 : decode cX10_seam 62 = .ok (.ireturn, 1) := by decide +kernel
theorem dX10_seam_63 : decode cX10_seam 63 = .ok (.iconst 0, 1) := by decide +kernel
theorem dX10_seam_64 : decode cX10_seam 64 = .ok (.istore_n 3, 1) := by decide +kernel
theorem dX10_seam_65 : decode cX10_seam 65 = .ok (.iload_n 3, 1) := by decide +kernel
theorem dX10_seam_66 : decode cX10_seam 66 = .ok (.aload_n 0, 1) := by decide +kernel
theorem dX10_seam_67 : decode cX10_seam 67 = .ok (.getfield 96, 3) := by decide +kernel
theorem dX10_seam_70 : decode cX10_seam 70 = .ok (.iconst 0, 1) := by decide +kernel
theorem dX10_seam_71 : decode cX10_seam 71 = .ok (.iaload, 1) := by decide +kernel
theorem dX10_seam_72 : decode cX10_seam 72 = .ok (.iconst 2, 1) := by decide +kernel
theorem dX10_seam_73 : decode cX10_seam 73 = .ok (.idiv, 1) := by decide +kernel
theorem dX10_seam_74 : decode cX10_seam 74 = .ok (.if_icmp .ge 34, 3) := by decide +kernel
theorem dX10_seam_77 : decode cX10_seam 77 = .ok (.iload_n 3, 1) := by decide +kernel
theorem dX10_seam_78 : decode cX10_seam 78 = .ok (.aload_n 0, 1) := by decide +kernel
theorem dX10_seam_79 : decode cX10_seam 79 = .ok (.getfield 96, 3) := by decide +kernel
theorem dX10_seam_82 : decode cX10_seam 82 = .ok (.iconst 2, 1) := by decide +kernel
theorem dX10_seam_83 : decode cX10_seam 83 = .ok (.iaload, 1) := by decide +kernel
theorem dX10_seam_84 : decode cX10_seam 84 = .ok (.if_icmp .ge 24, 3) := by decide +kernel
theorem dX10_seam_87 : decode cX10_seam 87 = .ok (.iload_n 2, 1) := by decide +kernel
theorem dX10_seam_88 : decode cX10_seam 88 = .ok (.aload_n 0, 1) := by decide +kernel
theorem dX10_seam_89 : decode cX10_seam 89 = .ok (.iload_n 1, 1) := by decide +kernel
theorem dX10_seam_90 : decode cX10_seam 90 = .ok (.iconst 1, 1) := by decide +kernel
theorem dX10_seam_91 : decode cX10_seam 91 = .ok (.iadd, 1) := by decide +kernel
theorem dX10_seam_92 : decode cX10_seam 92 = .ok (.iload_n 3, 1) := by decide +kernel
theorem dX10_seam_93 : decode cX10_seam 93 = .ok (.iload_n 1, 1) := by decide +kernel
theorem dX10_seam_94 : decode cX10_seam 94 = .ok (.iconst 1, 1) := by decide +kernel
theorem dX10_seam_95 : decode cX10_seam 95 = .ok (.isub, 1) := by decide +kernel
theorem dX10_seam_96 : decode cX10_seam 96 = .ok (.iload_n 3, 1) := by decide +kernel
theorem dX10_seam_97 : decode cX10_seam 97 = .ok (.invokevirtual 172, 3) := by decide +kernel
theorem dX10_seam_100 : decode cX10_seam 100 = .ok (.iadd, 1) := by decide +kernel
theorem dX10_seam_101 : decode cX10_seam 101 = .ok (.istore_n 2, 1) := by decide +kernel
theorem dX10_seam_102 : decode cX10_seam 102 = .ok (.iinc 3 1, 3) := by decide +kernel
theorem dX10_seam_105 : decode cX10_seam 105 = .ok (.goto (-40), 3) := by decide +kernel
theorem dX10_seam_108 : decode cX10_seam 108 = .ok (.iload_n 2, 1) := by decide +kernel
theorem dX10_seam_109 : decode cX10_seam 109 = .ok (.ireturn, 1) := by decide +kernel
theorem dX10_seam_110 : decode cX10_seam 110 = .ok (.iconst 0, 1) := by decide +kernel
theorem dX10_seam_111 : decode cX10_seam 111 = .ok (.istore_n 3, 1) := by decide +kernel
theorem dX10_seam_112 : decode cX10_seam 112 = .ok (.iload_n 3, 1) := by decide +kernel
theorem dX10_seam_113 : decode cX10_seam 113 = .ok (.aload_n 0, 1) := by decide +kernel
theorem dX10_seam_114 : decode cX10_seam 114 = .ok (.getfield 96, 3) := by decide +kernel
theorem dX10_seam_117 : decode cX10_seam 117 = .ok (.iconst 4, 1) := by decide +kernel
theorem dX10_seam_118 : decode cX10_seam 118 = .ok (.iaload, 1) := by decide +kernel
theorem dX10_seam_119 : decode cX10_seam 119 = .ok (.if_icmp .ge 39, 3) := by decide +kernel
theorem dX10_seam_122 : decode cX10_seam 122 = .ok (.iload_n 3, 1) := by decide +kernel
theorem dX10_seam_123 : decode cX10_seam 123 = .ok (.aload_n 0, 1) := by decide +kernel
theorem dX10_seam_124 : decode cX10_seam 124 = .ok (.getfield 96, 3) := by decide +kernel
theorem dX10_seam_127 : decode cX10_seam 127 = .ok (.iconst 0, 1) := by decide +kernel
theorem dX10_seam_128 : decode cX10_seam 128 = .ok (.iaload, 1) := by decide +kernel
theorem dX10_seam_129 : decode cX10_seam 129 = .ok (.if_icmp .ge 29, 3) := by decide +kernel
theorem dX10_seam_132 : decode cX10_seam 132 = .ok (.iload_n 2, 1) := by decide +kernel
theorem dX10_seam_133 : decode cX10_seam 133 = .ok (.aload_n 0, 1) := by decide +kernel
theorem dX10_seam_134 : decode cX10_seam 134 = .ok (.iconst 4, 1) := by decide +kernel
theorem dX10_seam_135 : decode cX10_seam 135 = .ok (.iload_n 3, 1) := by decide +kernel
theorem dX10_seam_136 : decode cX10_seam 136 = .ok (.iconst 0, 1) := by decide +kernel
theorem dX10_seam_137 : decode cX10_seam 137 = .ok (.aload_n 0, 1) := by decide +kernel
theorem dX10_seam_138 : decode cX10_seam 138 = .ok (.getfield 96, 3) := by decide +kernel
theorem dX10_seam_141 : decode cX10_seam 141 = .ok (.iconst 0, 1) := by decide +kernel
theorem dX10_seam_142 : decode cX10_seam 142 = .ok (.iaload, 1) := by decide +kernel
theorem dX10_seam_143 : decode cX10_seam 143 = .ok (.iconst 1, 1) := by decide +kernel
theorem dX10_seam_144 : decode cX10_seam 144 = .ok (.isub, 1) := by decide +kernel
theorem dX10_seam_145 : decode cX10_seam 145 = .ok (.iload_n 3, 1) := by decide +kernel
theorem dX10_seam_146 : decode cX10_seam 146 = .ok (.isub, 1) := by decide +kernel
theorem dX10_seam_147 : decode cX10_seam 147 = .ok (.invokevirtual 172, 3) := by decide +kernel
theorem dX10_seam_150 : decode cX10_seam 150 = .ok (.iadd, 1) := by decide +kernel
theorem dX10_seam_151 : decode cX10_seam 151 = .ok (.istore_n 2, 1) := by decide +kernel
theorem dX10_seam_152 : decode cX10_seam 152 = .ok (.iinc 3 1, 3) := by decide +kernel
theorem dX10_seam_155 : decode cX10_seam 155 = .ok (.goto (-43), 3) := by decide +kernel
theorem dX10_seam_158 : decode cX10_seam 158 = .ok (.iload_n 2, 1) := by decide +kernel
theorem dX10_seam_159 : decode cX10_seam 159 = .ok (.ireturn, 1) := by decide +kernel
theorem dX10_seam_160 : decode cX10_seam 160 = .ok (.iconst 0, 1) := by decide +kernel
theorem dX10_seam_161 : decode cX10_seam 161 = .ok (.istore_n 3, 1) := by decide +kernel
theorem dX10_seam_162 : decode cX10_seam 162 = .ok (.iload_n 3, 1) := by decide +kernel
theorem dX10_seam_163 : decode cX10_seam 163 = .ok (.aload_n 0, 1) := by decide +kernel
theorem dX10_seam_164 : decode cX10_seam 164 = .ok (.getfield 96, 3) := by decide +kernel
theorem dX10_seam_167 : decode cX10_seam 167 = .ok (.iconst 5, 1) := by decide +kernel
theorem dX10_seam_168 : decode cX10_seam 168 = .ok (.iaload, 1) := by decide +kernel
theorem dX10_seam_169 : decode cX10_seam 169 = .ok (.if_icmp .ge 30, 3) := by decide +kernel
theorem dX10_seam_172 : decode cX10_seam 172 = .ok (.iload_n 3, 1) := by decide +kernel
theorem dX10_seam_173 : decode cX10_seam 173 = .ok (.aload_n 0, 1) := by decide +kernel
theorem dX10_seam_174 : decode cX10_seam 174 = .ok (.getfield 96, 3) := by decide +kernel
theorem dX10_seam_177 : decode cX10_seam 177 = .ok (.iconst 4, 1) := by decide +kernel
theorem dX10_seam_178 : decode cX10_seam 178 = .ok (.iaload, 1) := by decide +kernel
theorem dX10_seam_179 : decode cX10_seam 179 = .ok (.if_icmp .ge 20, 3) := by decide +kernel
theorem dX10_seam_182 : decode cX10_seam 182 = .ok (.iload_n 2, 1) := by decide +kernel
theorem dX10_seam_183 : decode cX10_seam 183 = .ok (.aload_n 0, 1) := by decide +kernel
theorem dX10_seam_184 : decode cX10_seam 184 = .ok (.iconst 5, 1) := by decide +kernel
theorem dX10_seam_185 : decode cX10_seam 185 = .ok (.iload_n 3, 1) := by decide +kernel
theorem dX10_seam_186 : decode cX10_seam 186 = .ok (.iconst 4, 1) := by decide +kernel
theorem dX10_seam_187 : decode cX10_seam 187 = .ok (.iload_n 3, 1) := by decide +kernel
theorem dX10_seam_188 : decode cX10_seam 188 = .ok (.invokevirtual 172, 3) := by decide +kernel
theorem dX10_seam_191 : decode cX10_seam 191 = .ok (.iadd, 1) := by decide +kernel
theorem dX10_seam_192 : decode cX10_seam 192 = .ok (.istore_n 2, 1) := by decide +kernel
theorem dX10_seam_193 : decode cX10_seam 193 = .ok (.iinc 3 1, 3) := by decide +kernel
theorem dX10_seam_196 : decode cX10_seam 196 = .ok (.goto (-34), 3) := by decide +kernel
theorem dX10_seam_199 : decode cX10_seam 199 = .ok (.iload_n 2, 1) := by decide +kernel
theorem dX10_seam_200 : decode cX10_seam 200 = .ok (.ireturn, 1) := by decide +kernel
theorem dX10_shown_0 : decode cX10_shown 0 = .ok (.iconst 0, 1) := by decide +kernel
theorem dX10_shown_1 : decode cX10_shown 1 = .ok (.istore_n 1, 1) := by decide +kernel
theorem dX10_shown_2 : decode cX10_shown 2 = .ok (.iconst 0, 1) := by decide +kernel
theorem dX10_shown_3 : decode cX10_shown 3 = .ok (.istore_n 2, 1) := by decide +kernel
theorem dX10_shown_4 : decode cX10_shown 4 = .ok (.iload_n 2, 1) := by decide +kernel
theorem dX10_shown_5 : decode cX10_shown 5 = .ok (.bipush 6, 2) := by decide +kernel
theorem dX10_shown_7 : decode cX10_shown 7 = .ok (.if_icmp .ge 79, 3) := by decide +kernel
theorem dX10_shown_10 : decode cX10_shown 10 = .ok (.aload_n 0, 1) := by decide +kernel
theorem dX10_shown_11 : decode cX10_shown 11 = .ok (.getfield 78, 3) := by decide +kernel
theorem dX10_shown_14 : decode cX10_shown 14 = .ok (.istore_n 3, 1) := by decide +kernel
theorem dX10_shown_15 : decode cX10_shown 15 = .ok (.iload_n 3, 1) := by decide +kernel
theorem dX10_shown_16 : decode cX10_shown 16 = .ok (.aload_n 0, 1) := by decide +kernel
theorem dX10_shown_17 : decode cX10_shown 17 = .ok (.getfield 96, 3) := by decide +kernel
theorem dX10_shown_20 : decode cX10_shown 20 = .ok (.iload_n 2, 1) := by decide +kernel
theorem dX10_shown_21 : decode cX10_shown 21 = .ok (.iaload, 1) := by decide +kernel
theorem dX10_shown_22 : decode cX10_shown 22 = .ok (.aload_n 0, 1) := by decide +kernel
theorem dX10_shown_23 : decode cX10_shown 23 = .ok (.getfield 78, 3) := by decide +kernel
theorem dX10_shown_26 : decode cX10_shown 26 = .ok (.isub, 1) := by decide +kernel
theorem dX10_shown_27 : decode cX10_shown 27 = .ok (.if_icmp .ge 53, 3) := by decide +kernel
theorem dX10_shown_30 : decode cX10_shown 30 = .ok (.aload_n 0, 1) := by decide +kernel
theorem dX10_shown_31 : decode cX10_shown 31 = .ok (.getfield 102, 3) := by decide +kernel
theorem dX10_shown_34 : decode cX10_shown 34 = .ok (.aload_n 0, 1) := by decide +kernel
theorem dX10_shown_35 : decode cX10_shown 35 = .ok (.getfield 99, 3) := by decide +kernel
theorem dX10_shown_38 : decode cX10_shown 38 = .ok (.iload_n 2, 1) := by decide +kernel
theorem dX10_shown_39 : decode cX10_shown 39 = .ok (.iaload, 1) := by decide +kernel
theorem dX10_shown_40 : decode cX10_shown 40 = .ok (.iload_n 3, 1) := by decide +kernel
theorem dX10_shown_41 : decode cX10_shown 41 = .ok (.iadd, 1) := by decide +kernel
theorem dX10_shown_42 : decode cX10_shown 42 = .ok (.iaload, 1) := by decide +kernel
theorem dX10_shown_43 : decode cX10_shown 43 = .ok (.istore 4, 2) := by decide +kernel
theorem dX10_shown_45 : decode cX10_shown 45 = .ok (.iload_n 1, 1) := by decide +kernel
theorem dX10_shown_46 : decode cX10_shown 46 = .ok (.iload 4, 2) := by decide +kernel
theorem dX10_shown_48 : decode cX10_shown 48 = .ok (.bipush 10, 2) := by decide +kernel
theorem dX10_shown_50 : decode cX10_shown 50 = .ok (.idiv, 1) := by decide +kernel
theorem dX10_shown_51 : decode cX10_shown 51 = .ok (.bipush 10, 2) := by decide +kernel
theorem dX10_shown_53 : decode cX10_shown 53 = .ok (.irem, 1) := by decide +kernel
theorem dX10_shown_54 : decode cX10_shown 54 = .ok (.iconst 1, 1) := by decide +kernel
theorem dX10_shown_55 : decode cX10_shown 55 = .ok (.if_icmp .eq 12, 3) := by decide +kernel
theorem dX10_shown_58 : decode cX10_shown 58 = .ok (.iload 4, 2) := by decide +kernel
theorem dX10_shown_60 : decode cX10_shown 60 = .ok (.bipush 100, 2) := by decide +kernel
theorem dX10_shown_62 : decode cX10_shown 62 = .ok (.idiv, 1) := by decide +kernel
theorem dX10_shown_63 : decode cX10_shown 63 = .ok (.iconst 3, 1) := by decide +kernel
theorem dX10_shown_64 : decode cX10_shown 64 = .ok (.if_icmp .lt 7, 3) := by decide +kernel
theorem dX10_shown_67 : decode cX10_shown 67 = .ok (.iconst 1, 1) := by decide +kernel
theorem dX10_shown_68 : decode cX10_shown 68 = .ok (.goto 4, 3) := by decide +kernel
theorem dX10_shown_71 : decode cX10_shown 71 = .ok (.iconst 0, 1) := by decide +kernel
theorem dX10_shown_72 : decode cX10_shown 72 = .ok (.iadd, 1) := by decide +kernel
theorem dX10_shown_73 : decode cX10_shown 73 = .ok (.istore_n 1, 1) := by decide +kernel
theorem dX10_shown_74 : decode cX10_shown 74 = .ok (.iinc 3 1, 3) := by decide +kernel
theorem dX10_shown_77 : decode cX10_shown 77 = .ok (.goto (-62), 3) := by decide +kernel
theorem dX10_shown_80 : decode cX10_shown 80 = .ok (.iinc 2 1, 3) := by decide +kernel
theorem dX10_shown_83 : decode cX10_shown 83 = .ok (.goto (-79), 3) := by decide +kernel
theorem dX10_shown_86 : decode cX10_shown 86 = .ok (.iload_n 1, 1) := by decide +kernel
theorem dX10_shown_87 : decode cX10_shown 87 = .ok (.ireturn, 1) := by decide +kernel
theorem dX10_isLaying_0 : decode cX10_isLaying 0 = .ok (.iload_n 1, 1) := by decide +kernel
theorem dX10_isLaying_1 : decode cX10_isLaying 1 = .ok (.istore 4, 2) := by decide +kernel
theorem dX10_isLaying_3 : decode cX10_isLaying 3 = .ok (.iconst 0, 1) := by decide +kernel
theorem dX10_isLaying_4 : decode cX10_isLaying 4 = .ok (.istore 5, 2) := by decide +kernel
theorem dX10_isLaying_6 : decode cX10_isLaying 6 = .ok (.iconst 5, 1) := by decide +kernel
theorem dX10_isLaying_7 : decode cX10_isLaying 7 = .ok (.istore 6, 2) := by decide +kernel
theorem dX10_isLaying_9 : decode cX10_isLaying 9 = .ok (.iload 6, 2) := by decide +kernel
theorem dX10_isLaying_11 : decode cX10_isLaying 11 = .ok (.ifCond .lt 50, 3) := by decide +kernel
theorem dX10_isLaying_14 : decode cX10_isLaying 14 = .ok (.aload_n 0, 1) := by decide +kernel
theorem dX10_isLaying_15 : decode cX10_isLaying 15 = .ok (.getfield 105, 3) := by decide +kernel
theorem dX10_isLaying_18 : decode cX10_isLaying 18 = .ok (.iload 6, 2) := by decide +kernel
theorem dX10_isLaying_20 : decode cX10_isLaying 20 = .ok (.iload_n 1, 1) := by decide +kernel
theorem dX10_isLaying_21 : decode cX10_isLaying 21 = .ok (.ifCond .ge 7, 3) := by decide +kernel
theorem dX10_isLaying_24 : decode cX10_isLaying 24 = .ok (.iconst 0, 1) := by decide +kernel
theorem dX10_isLaying_25 : decode cX10_isLaying 25 = .ok (.goto 8, 3) := by decide +kernel
theorem dX10_isLaying_28 : decode cX10_isLaying 28 = .ok (.iload 4, 2) := by decide +kernel
theorem dX10_isLaying_30 : decode cX10_isLaying 30 = .ok (.bipush 6, 2) := by decide +kernel
theorem dX10_isLaying_32 : decode cX10_isLaying 32 = .ok (.irem, 1) := by decide +kernel
theorem dX10_isLaying_33 : decode cX10_isLaying 33 = .ok (.iastore, 1) := by decide +kernel
theorem dX10_isLaying_34 : decode cX10_isLaying 34 = .ok (.iload 5, 2) := by decide +kernel
theorem dX10_isLaying_36 : decode cX10_isLaying 36 = .ok (.iconst 1, 1) := by decide +kernel
theorem dX10_isLaying_37 : decode cX10_isLaying 37 = .ok (.aload_n 0, 1) := by decide +kernel
theorem dX10_isLaying_38 : decode cX10_isLaying 38 = .ok (.getfield 105, 3) := by decide +kernel
theorem dX10_isLaying_41 : decode cX10_isLaying 41 = .ok (.iload 6, 2) := by decide +kernel
theorem dX10_isLaying_43 : decode cX10_isLaying 43 = .ok (.iaload, 1) := by decide +kernel
theorem dX10_isLaying_44 : decode cX10_isLaying 44 = .ok (.ishl, 1) := by decide +kernel
theorem dX10_isLaying_45 : decode cX10_isLaying 45 = .ok (.ior, 1) := by decide +kernel
theorem dX10_isLaying_46 : decode cX10_isLaying 46 = .ok (.istore 5, 2) := by decide +kernel
theorem dX10_isLaying_48 : decode cX10_isLaying 48 = .ok (.iload 4, 2) := by decide +kernel
theorem dX10_isLaying_50 : decode cX10_isLaying 50 = .ok (.bipush 6, 2) := by decide +kernel
theorem dX10_isLaying_52 : decode cX10_isLaying 52 = .ok (.idiv, 1) := by decide +kernel
theorem dX10_isLaying_53 : decode cX10_isLaying 53 = .ok (.istore 4, 2) := by decide +kernel
theorem dX10_isLaying_55 : decode cX10_isLaying 55 = .ok (.iinc 6 (-1), 3) := by decide +kernel
theorem dX10_isLaying_58 : decode cX10_isLaying 58 = .ok (.goto (-49), 3) := by decide +kernel
theorem dX10_isLaying_61 : decode cX10_isLaying 61 = .ok (.iload_n 1, 1) := by decide +kernel
theorem dX10_isLaying_62 : decode cX10_isLaying 62 = .ok (.ifCond .lt 43, 3) := by decide +kernel
theorem dX10_isLaying_65 : decode cX10_isLaying 65 = .ok (.iload 4, 2) := by decide +kernel
theorem dX10_isLaying_67 : decode cX10_isLaying 67 = .ok (.ifCond .ne 38, 3) := by decide +kernel
theorem dX10_isLaying_70 : decode cX10_isLaying 70 = .ok (.iload 5, 2) := by decide +kernel
theorem dX10_isLaying_72 : decode cX10_isLaying 72 = .ok (.bipush 63, 2) := by decide +kernel
theorem dX10_isLaying_74 : decode cX10_isLaying 74 = .ok (.if_icmp .ne 31, 3) := by decide +kernel
theorem dX10_isLaying_77 : decode cX10_isLaying 77 = .ok (.iload_n 2, 1) := by decide +kernel
theorem dX10_isLaying_78 : decode cX10_isLaying 78 = .ok (.iconst 0, 1) := by decide +kernel
theorem dX10_isLaying_79 : decode cX10_isLaying 79 = .ok (.bipush 63, 2) := by decide +kernel
theorem dX10_isLaying_81 : decode cX10_isLaying 81 = .ok (.invokestatic 141, 3) := by decide +kernel
theorem dX10_isLaying_84 : decode cX10_isLaying 84 = .ok (.ifCond .eq 21, 3) := by decide +kernel
theorem dX10_isLaying_87 : decode cX10_isLaying 87 = .ok (.iload_n 3, 1) := by decide +kernel
theorem dX10_isLaying_88 : decode cX10_isLaying 88 = .ok (.ifCond .eq 13, 3) := by decide +kernel
theorem dX10_isLaying_91 : decode cX10_isLaying 91 = .ok (.iload_n 2, 1) := by decide +kernel
theorem dX10_isLaying_92 : decode cX10_isLaying 92 = .ok (.ifCond .eq 9, 3) := by decide +kernel
theorem dX10_isLaying_95 : decode cX10_isLaying 95 = .ok (.iload_n 2, 1) := by decide +kernel
theorem dX10_isLaying_96 : decode cX10_isLaying 96 = .ok (.bipush 63, 2) := by decide +kernel
theorem dX10_isLaying_98 : decode cX10_isLaying 98 = .ok (.if_icmp .ne 7, 3) := by decide +kernel
theorem dX10_isLaying_101 : decode cX10_isLaying 101 = .ok (.iconst 1, 1) := by decide +kernel
theorem dX10_isLaying_102 : decode cX10_isLaying 102 = .ok (.goto 4, 3) := by decide +kernel
theorem dX10_isLaying_105 : decode cX10_isLaying 105 = .ok (.iconst 0, 1) := by decide +kernel
theorem dX10_isLaying_106 : decode cX10_isLaying 106 = .ok (.ireturn, 1) := by decide +kernel
theorem dX10_lays_0 : decode cX10_lays 0 = .ok (.bipush 120, 2) := by decide +kernel
theorem dX10_lays_2 : decode cX10_lays 2 = .ok (.iload_n 1, 1) := by decide +kernel
theorem dX10_lays_3 : decode cX10_lays 3 = .ok (.imul, 1) := by decide +kernel
theorem dX10_lays_4 : decode cX10_lays 4 = .ok (.istore_n 3, 1) := by decide +kernel
theorem dX10_lays_5 : decode cX10_lays 5 = .ok (.iconst 0, 1) := by decide +kernel
theorem dX10_lays_6 : decode cX10_lays 6 = .ok (.istore 4, 2) := by decide +kernel
theorem dX10_lays_8 : decode cX10_lays 8 = .ok (.iload 4, 2) := by decide +kernel
theorem dX10_lays_10 : decode cX10_lays 10 = .ok (.bipush 6, 2) := by decide +kernel
theorem dX10_lays_12 : decode cX10_lays 12 = .ok (.if_icmp .ge 92, 3) := by decide +kernel
theorem dX10_lays_15 : decode cX10_lays 15 = .ok (.aload_n 0, 1) := by decide +kernel
theorem dX10_lays_16 : decode cX10_lays 16 = .ok (.getfield 105, 3) := by decide +kernel
theorem dX10_lays_19 : decode cX10_lays 19 = .ok (.iload 4, 2) := by decide +kernel
theorem dX10_lays_21 : decode cX10_lays 21 = .ok (.iaload, 1) := by decide +kernel
theorem dX10_lays_22 : decode cX10_lays 22 = .ok (.istore 5, 2) := by decide +kernel
theorem dX10_lays_24 : decode cX10_lays 24 = .ok (.aload_n 0, 1) := by decide +kernel
theorem dX10_lays_25 : decode cX10_lays 25 = .ok (.getfield 96, 3) := by decide +kernel
theorem dX10_lays_28 : decode cX10_lays 28 = .ok (.iload 5, 2) := by decide +kernel
theorem dX10_lays_30 : decode cX10_lays 30 = .ok (.iaload, 1) := by decide +kernel
theorem dX10_lays_31 : decode cX10_lays 31 = .ok (.istore 6, 2) := by decide +kernel
theorem dX10_lays_33 : decode cX10_lays 33 = .ok (.iconst 0, 1) := by decide +kernel
theorem dX10_lays_34 : decode cX10_lays 34 = .ok (.istore 7, 2) := by decide +kernel
theorem dX10_lays_36 : decode cX10_lays 36 = .ok (.iload 7, 2) := by decide +kernel
theorem dX10_lays_38 : decode cX10_lays 38 = .ok (.iload 6, 2) := by decide +kernel
theorem dX10_lays_40 : decode cX10_lays 40 = .ok (.if_icmp .ge 53, 3) := by decide +kernel
theorem dX10_lays_43 : decode cX10_lays 43 = .ok (.aload_n 0, 1) := by decide +kernel
theorem dX10_lays_44 : decode cX10_lays 44 = .ok (.getfield 102, 3) := by decide +kernel
theorem dX10_lays_47 : decode cX10_lays 47 = .ok (.aload_n 0, 1) := by decide +kernel
theorem dX10_lays_48 : decode cX10_lays 48 = .ok (.getfield 99, 3) := by decide +kernel
theorem dX10_lays_51 : decode cX10_lays 51 = .ok (.iload 5, 2) := by decide +kernel
theorem dX10_lays_53 : decode cX10_lays 53 = .ok (.iaload, 1) := by decide +kernel
theorem dX10_lays_54 : decode cX10_lays 54 = .ok (.iload 7, 2) := by decide +kernel
theorem dX10_lays_56 : decode cX10_lays 56 = .ok (.iadd, 1) := by decide +kernel
theorem dX10_lays_57 : decode cX10_lays 57 = .ok (.aload_n 0, 1) := by decide +kernel
theorem dX10_lays_58 : decode cX10_lays 58 = .ok (.getfield 23, 3) := by decide +kernel
theorem dX10_lays_61 : decode cX10_lays 61 = .ok (.iload_n 3, 1) := by decide +kernel
theorem dX10_lays_62 : decode cX10_lays 62 = .ok (.iload_n 2, 1) := by decide +kernel
theorem dX10_lays_63 : decode cX10_lays 63 = .ok (.iload 5, 2) := by decide +kernel
theorem dX10_lays_65 : decode cX10_lays 65 = .ok (.ishr, 1) := by decide +kernel
theorem dX10_lays_66 : decode cX10_lays 66 = .ok (.iconst 1, 1) := by decide +kernel
theorem dX10_lays_67 : decode cX10_lays 67 = .ok (.iand, 1) := by decide +kernel
theorem dX10_lays_68 : decode cX10_lays 68 = .ok (.iconst 1, 1) := by decide +kernel
theorem dX10_lays_69 : decode cX10_lays 69 = .ok (.if_icmp .ne 13, 3) := by decide +kernel
theorem dX10_lays_72 : decode cX10_lays 72 = .ok (.iload 6, 2) := by decide +kernel
theorem dX10_lays_74 : decode cX10_lays 74 = .ok (.iconst 1, 1) := by decide +kernel
theorem dX10_lays_75 : decode cX10_lays 75 = .ok (.isub, 1) := by decide +kernel
theorem dX10_lays_76 : decode cX10_lays 76 = .ok (.iload 7, 2) := by decide +kernel
theorem dX10_lays_78 : decode cX10_lays 78 = .ok (.isub, 1) := by decide +kernel
theorem dX10_lays_79 : decode cX10_lays 79 = .ok (.goto 5, 3) := by decide +kernel
theorem dX10_lays_82 : decode cX10_lays 82 = .ok (.iload 7, 2) := by decide +kernel
theorem dX10_lays_84 : decode cX10_lays 84 = .ok (.iadd, 1) := by decide +kernel
theorem dX10_lays_85 : decode cX10_lays 85 = .ok (.iaload, 1) := by decide +kernel
theorem dX10_lays_86 : decode cX10_lays 86 = .ok (.iastore, 1) := by decide +kernel
theorem dX10_lays_87 : decode cX10_lays 87 = .ok (.iinc 7 1, 3) := by decide +kernel
theorem dX10_lays_90 : decode cX10_lays 90 = .ok (.goto (-54), 3) := by decide +kernel
theorem dX10_lays_93 : decode cX10_lays 93 = .ok (.iload_n 3, 1) := by decide +kernel
theorem dX10_lays_94 : decode cX10_lays 94 = .ok (.iload 6, 2) := by decide +kernel
theorem dX10_lays_96 : decode cX10_lays 96 = .ok (.iadd, 1) := by decide +kernel
theorem dX10_lays_97 : decode cX10_lays 97 = .ok (.istore_n 3, 1) := by decide +kernel
theorem dX10_lays_98 : decode cX10_lays 98 = .ok (.iinc 4 1, 3) := by decide +kernel
theorem dX10_lays_101 : decode cX10_lays 101 = .ok (.goto (-93), 3) := by decide +kernel
theorem dX10_lays_104 : decode cX10_lays 104 = .ok (.return_, 1) := by decide +kernel
theorem dX10_uglyNow_0 : decode cX10_uglyNow 0 = .ok (.iconst 5, 1) := by decide +kernel
theorem dX10_uglyNow_1 : decode cX10_uglyNow 1 = .ok (.aload_n 0, 1) := by decide +kernel
theorem dX10_uglyNow_2 : decode cX10_uglyNow 2 = .ok (.invokevirtual 176, 3) := by decide +kernel
theorem dX10_uglyNow_5 : decode cX10_uglyNow 5 = .ok (.imul, 1) := by decide +kernel
theorem dX10_uglyNow_6 : decode cX10_uglyNow 6 = .ok (.istore_n 1, 1) := by decide +kernel
theorem dX10_uglyNow_7 : decode cX10_uglyNow 7 = .ok (.iconst 0, 1) := by decide +kernel
theorem dX10_uglyNow_8 : decode cX10_uglyNow 8 = .ok (.istore_n 2, 1) := by decide +kernel
theorem dX10_uglyNow_9 : decode cX10_uglyNow 9 = .ok (.iload_n 2, 1) := by decide +kernel
theorem dX10_uglyNow_10 : decode cX10_uglyNow 10 = .ok (.iconst 5, 1) := by decide +kernel
theorem dX10_uglyNow_11 : decode cX10_uglyNow 11 = .ok (.if_icmp .ge 17, 3) := by decide +kernel
theorem dX10_uglyNow_14 : decode cX10_uglyNow 14 = .ok (.iload_n 1, 1) := by decide +kernel
theorem dX10_uglyNow_15 : decode cX10_uglyNow 15 = .ok (.aload_n 0, 1) := by decide +kernel
theorem dX10_uglyNow_16 : decode cX10_uglyNow 16 = .ok (.iload_n 2, 1) := by decide +kernel
theorem dX10_uglyNow_17 : decode cX10_uglyNow 17 = .ok (.invokevirtual 180, 3) := by decide +kernel
theorem dX10_uglyNow_20 : decode cX10_uglyNow 20 = .ok (.iadd, 1) := by decide +kernel
theorem dX10_uglyNow_21 : decode cX10_uglyNow 21 = .ok (.istore_n 1, 1) := by decide +kernel
theorem dX10_uglyNow_22 : decode cX10_uglyNow 22 = .ok (.iinc 2 1, 3) := by decide +kernel
theorem dX10_uglyNow_25 : decode cX10_uglyNow 25 = .ok (.goto (-16), 3) := by decide +kernel
theorem dX10_uglyNow_28 : decode cX10_uglyNow 28 = .ok (.iload_n 1, 1) := by decide +kernel
theorem dX10_uglyNow_29 : decode cX10_uglyNow 29 = .ok (.ireturn, 1) := by decide +kernel
theorem dX10_bad_0 : decode cX10_bad 0 = .ok (.aload_n 0, 1) := by decide +kernel
theorem dX10_bad_1 : decode cX10_bad 1 = .ok (.iload_n 1, 1) := by decide +kernel
theorem dX10_bad_2 : decode cX10_bad 2 = .ok (.invokevirtual 157, 3) := by decide +kernel
theorem dX10_bad_5 : decode cX10_bad 5 = .ok (.ifCond .ne 5, 3) := by decide +kernel
theorem dX10_bad_8 : decode cX10_bad 8 = .ok (.iconst (-1), 1) := by decide +kernel
theorem dX10_bad_9 : decode cX10_bad 9 = .ok (.ireturn, 1) := by decide +kernel
theorem dX10_bad_10 : decode cX10_bad 10 = .ok (.aload_n 0, 1) := by decide +kernel
theorem dX10_bad_11 : decode cX10_bad 11 = .ok (.iload_n 2, 1) := by decide +kernel
theorem dX10_bad_12 : decode cX10_bad 12 = .ok (.iload_n 3, 1) := by decide +kernel
theorem dX10_bad_13 : decode cX10_bad 13 = .ok (.aload_n 0, 1) := by decide +kernel
theorem dX10_bad_14 : decode cX10_bad 14 = .ok (.getfield 20, 3) := by decide +kernel
theorem dX10_bad_17 : decode cX10_bad 17 = .ok (.iload_n 1, 1) := by decide +kernel
theorem dX10_bad_18 : decode cX10_bad 18 = .ok (.iaload, 1) := by decide +kernel
theorem dX10_bad_19 : decode cX10_bad 19 = .ok (.invokevirtual 183, 3) := by decide +kernel
theorem dX10_bad_22 : decode cX10_bad 22 = .ok (.ifCond .ne 6, 3) := by decide +kernel
theorem dX10_bad_25 : decode cX10_bad 25 = .ok (.bipush (-2), 2) := by decide +kernel
theorem dX10_bad_27 : decode cX10_bad 27 = .ok (.ireturn, 1) := by decide +kernel
theorem dX10_bad_28 : decode cX10_bad 28 = .ok (.aload_n 0, 1) := by decide +kernel
theorem dX10_bad_29 : decode cX10_bad 29 = .ok (.iload_n 1, 1) := by decide +kernel
theorem dX10_bad_30 : decode cX10_bad 30 = .ok (.invokevirtual 168, 3) := by decide +kernel
theorem dX10_bad_33 : decode cX10_bad 33 = .ok (.istore 4, 2) := by decide +kernel
theorem dX10_bad_35 : decode cX10_bad 35 = .ok (.iload 4, 2) := by decide +kernel
theorem dX10_bad_37 : decode cX10_bad 37 = .ok (.bipush (-3), 2) := by decide +kernel
theorem dX10_bad_39 : decode cX10_bad 39 = .ok (.if_icmp .ne 6, 3) := by decide +kernel
theorem dX10_bad_42 : decode cX10_bad 42 = .ok (.bipush (-3), 2) := by decide +kernel
theorem dX10_bad_44 : decode cX10_bad 44 = .ok (.ireturn, 1) := by decide +kernel
theorem dX10_bad_45 : decode cX10_bad 45 = .ok (.aload_n 0, 1) := by decide +kernel
theorem dX10_bad_46 : decode cX10_bad 46 = .ok (.aload_n 0, 1) := by decide +kernel
theorem dX10_bad_47 : decode cX10_bad 47 = .ok (.getfield 68, 3) := by decide +kernel
theorem dX10_bad_50 : decode cX10_bad 50 = .ok (.iload 4, 2) := by decide +kernel
theorem dX10_bad_52 : decode cX10_bad 52 = .ok (.aload_n 0, 1) := by decide +kernel
theorem dX10_bad_53 : decode cX10_bad 53 = .ok (.getfield 72, 3) := by decide +kernel
theorem dX10_bad_56 : decode cX10_bad 56 = .ok (.aload_n 0, 1) := by decide +kernel
theorem dX10_bad_57 : decode cX10_bad 57 = .ok (.getfield 75, 3) := by decide +kernel
theorem dX10_bad_60 : decode cX10_bad 60 = .ok (.invokevirtual 186, 3) := by decide +kernel
theorem dX10_bad_63 : decode cX10_bad 63 = .ok (.aload_n 0, 1) := by decide +kernel
theorem dX10_bad_64 : decode cX10_bad 64 = .ok (.iload_n 1, 1) := by decide +kernel
theorem dX10_bad_65 : decode cX10_bad 65 = .ok (.iload_n 3, 1) := by decide +kernel
theorem dX10_bad_66 : decode cX10_bad 66 = .ok (.invokevirtual 190, 3) := by decide +kernel
theorem dX10_bad_69 : decode cX10_bad 69 = .ok (.iconst 0, 1) := by decide +kernel
theorem dX10_bad_70 : decode cX10_bad 70 = .ok (.ireturn, 1) := by decide +kernel
theorem dX10_ugly_0 : decode cX10_ugly 0 = .ok (.aload_n 0, 1) := by decide +kernel
theorem dX10_ugly_1 : decode cX10_ugly 1 = .ok (.iload_n 1, 1) := by decide +kernel
theorem dX10_ugly_2 : decode cX10_ugly 2 = .ok (.iload_n 2, 1) := by decide +kernel
theorem dX10_ugly_3 : decode cX10_ugly 3 = .ok (.iload_n 3, 1) := by decide +kernel
theorem dX10_ugly_4 : decode cX10_ugly 4 = .ok (.invokevirtual 194, 3) := by decide +kernel
theorem dX10_ugly_7 : decode cX10_ugly 7 = .ok (.istore 4, 2) := by decide +kernel
theorem dX10_ugly_9 : decode cX10_ugly 9 = .ok (.iload 4, 2) := by decide +kernel
theorem dX10_ugly_11 : decode cX10_ugly 11 = .ok (.ifCond .eq 8, 3) := by decide +kernel
theorem dX10_ugly_14 : decode cX10_ugly 14 = .ok (.iload 4, 2) := by decide +kernel
theorem dX10_ugly_16 : decode cX10_ugly 16 = .ok (.goto 7, 3) := by decide +kernel
theorem dX10_ugly_19 : decode cX10_ugly 19 = .ok (.aload_n 0, 1) := by decide +kernel
theorem dX10_ugly_20 : decode cX10_ugly 20 = .ok (.invokevirtual 197, 3) := by decide +kernel
theorem dX10_ugly_23 : decode cX10_ugly 23 = .ok (.ireturn, 1) := by decide +kernel
theorem dX10_many_0 : decode cX10_many 0 = .ok (.iconst 0, 1) := by decide +kernel
theorem dX10_many_1 : decode cX10_many 1 = .ok (.istore_n 1, 1) := by decide +kernel
theorem dX10_many_2 : decode cX10_many 2 = .ok (.iconst 0, 1) := by decide +kernel
theorem dX10_many_3 : decode cX10_many 3 = .ok (.istore_n 2, 1) := by decide +kernel
theorem dX10_many_4 : decode cX10_many 4 = .ok (.iload_n 2, 1) := by decide +kernel
theorem dX10_many_5 : decode cX10_many 5 = .ok (.bipush 6, 2) := by decide +kernel
theorem dX10_many_7 : decode cX10_many 7 = .ok (.if_icmp .ge 17, 3) := by decide +kernel
theorem dX10_many_10 : decode cX10_many 10 = .ok (.iload_n 1, 1) := by decide +kernel
theorem dX10_many_11 : decode cX10_many 11 = .ok (.iload_n 0, 1) := by decide +kernel
theorem dX10_many_12 : decode cX10_many 12 = .ok (.iload_n 2, 1) := by decide +kernel
theorem dX10_many_13 : decode cX10_many 13 = .ok (.ishr, 1) := by decide +kernel
theorem dX10_many_14 : decode cX10_many 14 = .ok (.iconst 1, 1) := by decide +kernel
theorem dX10_many_15 : decode cX10_many 15 = .ok (.iand, 1) := by decide +kernel
theorem dX10_many_16 : decode cX10_many 16 = .ok (.iadd, 1) := by decide +kernel
theorem dX10_many_17 : decode cX10_many 17 = .ok (.istore_n 1, 1) := by decide +kernel
theorem dX10_many_18 : decode cX10_many 18 = .ok (.iinc 2 1, 3) := by decide +kernel
theorem dX10_many_21 : decode cX10_many 21 = .ok (.goto (-17), 3) := by decide +kernel
theorem dX10_many_24 : decode cX10_many 24 = .ok (.iload_n 1, 1) := by decide +kernel
theorem dX10_many_25 : decode cX10_many 25 = .ok (.ireturn, 1) := by decide +kernel
theorem dX10_turns_0 : decode cX10_turns 0 = .ok (.iconst 4, 1) := by decide +kernel
theorem dX10_turns_1 : decode cX10_turns 1 = .ok (.istore_n 1, 1) := by decide +kernel
theorem dX10_turns_2 : decode cX10_turns 2 = .ok (.iload_n 1, 1) := by decide +kernel
theorem dX10_turns_3 : decode cX10_turns 3 = .ok (.ifCond .lt 26, 3) := by decide +kernel
theorem dX10_turns_6 : decode cX10_turns 6 = .ok (.aload_n 0, 1) := by decide +kernel
theorem dX10_turns_7 : decode cX10_turns 7 = .ok (.getfield 105, 3) := by decide +kernel
theorem dX10_turns_10 : decode cX10_turns 10 = .ok (.iload_n 1, 1) := by decide +kernel
theorem dX10_turns_11 : decode cX10_turns 11 = .ok (.iaload, 1) := by decide +kernel
theorem dX10_turns_12 : decode cX10_turns 12 = .ok (.aload_n 0, 1) := by decide +kernel
theorem dX10_turns_13 : decode cX10_turns 13 = .ok (.getfield 105, 3) := by decide +kernel
theorem dX10_turns_16 : decode cX10_turns 16 = .ok (.iload_n 1, 1) := by decide +kernel
theorem dX10_turns_17 : decode cX10_turns 17 = .ok (.iconst 1, 1) := by decide +kernel
theorem dX10_turns_18 : decode cX10_turns 18 = .ok (.iadd, 1) := by decide +kernel
theorem dX10_turns_19 : decode cX10_turns 19 = .ok (.iaload, 1) := by decide +kernel
theorem dX10_turns_20 : decode cX10_turns 20 = .ok (.if_icmp .le 9, 3) := by decide +kernel
theorem dX10_turns_23 : decode cX10_turns 23 = .ok (.iinc 1 (-1), 3) := by decide +kernel
theorem dX10_turns_26 : decode cX10_turns 26 = .ok (.goto (-24), 3) := by decide +kernel
theorem dX10_turns_29 : decode cX10_turns 29 = .ok (.iload_n 1, 1) := by decide +kernel
theorem dX10_turns_30 : decode cX10_turns 30 = .ok (.ifCond .ge 5, 3) := by decide +kernel
theorem dX10_turns_33 : decode cX10_turns 33 = .ok (.iconst 0, 1) := by decide +kernel
theorem dX10_turns_34 : decode cX10_turns 34 = .ok (.ireturn, 1) := by decide +kernel
theorem dX10_turns_35 : decode cX10_turns 35 = .ok (.iconst 5, 1) := by decide +kernel
theorem dX10_turns_36 : decode cX10_turns 36 = .ok (.istore_n 2, 1) := by decide +kernel
theorem dX10_turns_37 : decode cX10_turns 37 = .ok (.aload_n 0, 1) := by decide +kernel
theorem dX10_turns_38 : decode cX10_turns 38 = .ok (.getfield 105, 3) := by decide +kernel
theorem dX10_turns_41 : decode cX10_turns 41 = .ok (.iload_n 2, 1) := by decide +kernel
theorem dX10_turns_42 : decode cX10_turns 42 = .ok (.iaload, 1) := by decide +kernel
theorem dX10_turns_43 : decode cX10_turns 43 = .ok (.aload_n 0, 1) := by decide +kernel
theorem dX10_turns_44 : decode cX10_turns 44 = .ok (.getfield 105, 3) := by decide +kernel
theorem dX10_turns_47 : decode cX10_turns 47 = .ok (.iload_n 1, 1) := by decide +kernel
theorem dX10_turns_48 : decode cX10_turns 48 = .ok (.iaload, 1) := by decide +kernel
theorem dX10_turns_49 : decode cX10_turns 49 = .ok (.if_icmp .ge 9, 3) := by decide +kernel
theorem dX10_turns_52 : decode cX10_turns 52 = .ok (.iinc 2 (-1), 3) := by decide +kernel
theorem dX10_turns_55 : decode cX10_turns 55 = .ok (.goto (-18), 3) := by decide +kernel
theorem dX10_turns_58 : decode cX10_turns 58 = .ok (.aload_n 0, 1) := by decide +kernel
theorem dX10_turns_59 : decode cX10_turns 59 = .ok (.iload_n 1, 1) := by decide +kernel
theorem dX10_turns_60 : decode cX10_turns 60 = .ok (.iload_n 2, 1) := by decide +kernel
theorem dX10_turns_61 : decode cX10_turns 61 = .ok (.invokevirtual 200, 3) := by decide +kernel
theorem dX10_turns_64 : decode cX10_turns 64 = .ok (.iload_n 1, 1) := by decide +kernel
theorem dX10_turns_65 : decode cX10_turns 65 = .ok (.iconst 1, 1) := by decide +kernel
theorem dX10_turns_66 : decode cX10_turns 66 = .ok (.iadd, 1) := by decide +kernel
theorem dX10_turns_67 : decode cX10_turns 67 = .ok (.istore_n 3, 1) := by decide +kernel
theorem dX10_turns_68 : decode cX10_turns 68 = .ok (.iconst 5, 1) := by decide +kernel
theorem dX10_turns_69 : decode cX10_turns 69 = .ok (.istore 4, 2) := by decide +kernel
theorem dX10_turns_71 : decode cX10_turns 71 = .ok (.iload_n 3, 1) := by decide +kernel
theorem dX10_turns_72 : decode cX10_turns 72 = .ok (.iload 4, 2) := by decide +kernel
theorem dX10_turns_74 : decode cX10_turns 74 = .ok (.if_icmp .ge 19, 3) := by decide +kernel
theorem dX10_turns_77 : decode cX10_turns 77 = .ok (.aload_n 0, 1) := by decide +kernel
theorem dX10_turns_78 : decode cX10_turns 78 = .ok (.iload_n 3, 1) := by decide +kernel
theorem dX10_turns_79 : decode cX10_turns 79 = .ok (.iload 4, 2) := by decide +kernel
theorem dX10_turns_81 : decode cX10_turns 81 = .ok (.invokevirtual 200, 3) := by decide +kernel
theorem dX10_turns_84 : decode cX10_turns 84 = .ok (.iinc 3 1, 3) := by decide +kernel
theorem dX10_turns_87 : decode cX10_turns 87 = .ok (.iinc 4 (-1), 3) := by decide +kernel
theorem dX10_turns_90 : decode cX10_turns 90 = .ok (.goto (-19), 3) := by decide +kernel
theorem dX10_turns_93 : decode cX10_turns 93 = .ok (.iconst 1, 1) := by decide +kernel
theorem dX10_turns_94 : decode cX10_turns 94 = .ok (.ireturn, 1) := by decide +kernel
theorem dX10_swap_0 : decode cX10_swap 0 = .ok (.aload_n 0, 1) := by decide +kernel
theorem dX10_swap_1 : decode cX10_swap 1 = .ok (.getfield 105, 3) := by decide +kernel
theorem dX10_swap_4 : decode cX10_swap 4 = .ok (.iload_n 1, 1) := by decide +kernel
theorem dX10_swap_5 : decode cX10_swap 5 = .ok (.iaload, 1) := by decide +kernel
theorem dX10_swap_6 : decode cX10_swap 6 = .ok (.istore_n 3, 1) := by decide +kernel
theorem dX10_swap_7 : decode cX10_swap 7 = .ok (.aload_n 0, 1) := by decide +kernel
theorem dX10_swap_8 : decode cX10_swap 8 = .ok (.getfield 105, 3) := by decide +kernel
theorem dX10_swap_11 : decode cX10_swap 11 = .ok (.iload_n 1, 1) := by decide +kernel
theorem dX10_swap_12 : decode cX10_swap 12 = .ok (.aload_n 0, 1) := by decide +kernel
theorem dX10_swap_13 : decode cX10_swap 13 = .ok (.getfield 105, 3) := by decide +kernel
theorem dX10_swap_16 : decode cX10_swap 16 = .ok (.iload_n 2, 1) := by decide +kernel
theorem dX10_swap_17 : decode cX10_swap 17 = .ok (.iaload, 1) := by decide +kernel
theorem dX10_swap_18 : decode cX10_swap 18 = .ok (.iastore, 1) := by decide +kernel
theorem dX10_swap_19 : decode cX10_swap 19 = .ok (.aload_n 0, 1) := by decide +kernel
theorem dX10_swap_20 : decode cX10_swap 20 = .ok (.getfield 105, 3) := by decide +kernel
theorem dX10_swap_23 : decode cX10_swap 23 = .ok (.iload_n 2, 1) := by decide +kernel
theorem dX10_swap_24 : decode cX10_swap 24 = .ok (.iload_n 3, 1) := by decide +kernel
theorem dX10_swap_25 : decode cX10_swap 25 = .ok (.iastore, 1) := by decide +kernel
theorem dX10_swap_26 : decode cX10_swap 26 = .ok (.return_, 1) := by decide +kernel
theorem dX10_code_0 : decode cX10_code 0 = .ok (.iconst 0, 1) := by decide +kernel
theorem dX10_code_1 : decode cX10_code 1 = .ok (.istore_n 1, 1) := by decide +kernel
theorem dX10_code_2 : decode cX10_code 2 = .ok (.iconst 0, 1) := by decide +kernel
theorem dX10_code_3 : decode cX10_code 3 = .ok (.istore_n 2, 1) := by decide +kernel
theorem dX10_code_4 : decode cX10_code 4 = .ok (.iload_n 2, 1) := by decide +kernel
theorem dX10_code_5 : decode cX10_code 5 = .ok (.bipush 6, 2) := by decide +kernel
theorem dX10_code_7 : decode cX10_code 7 = .ok (.if_icmp .ge 21, 3) := by decide +kernel
theorem dX10_code_10 : decode cX10_code 10 = .ok (.bipush 6, 2) := by decide +kernel
theorem dX10_code_12 : decode cX10_code 12 = .ok (.iload_n 1, 1) := by decide +kernel
theorem dX10_code_13 : decode cX10_code 13 = .ok (.imul, 1) := by decide +kernel
theorem dX10_code_14 : decode cX10_code 14 = .ok (.aload_n 0, 1) := by decide +kernel
theorem dX10_code_15 : decode cX10_code 15 = .ok (.getfield 105, 3) := by decide +kernel
theorem dX10_code_18 : decode cX10_code 18 = .ok (.iload_n 2, 1) := by decide +kernel
theorem dX10_code_19 : decode cX10_code 19 = .ok (.iaload, 1) := by decide +kernel
theorem dX10_code_20 : decode cX10_code 20 = .ok (.iadd, 1) := by decide +kernel
theorem dX10_code_21 : decode cX10_code 21 = .ok (.istore_n 1, 1) := by decide +kernel
theorem dX10_code_22 : decode cX10_code 22 = .ok (.iinc 2 1, 3) := by decide +kernel
theorem dX10_code_25 : decode cX10_code 25 = .ok (.goto (-21), 3) := by decide +kernel
theorem dX10_code_28 : decode cX10_code 28 = .ok (.iload_n 1, 1) := by decide +kernel
theorem dX10_code_29 : decode cX10_code 29 = .ok (.ireturn, 1) := by decide +kernel
theorem dX10_best_0 : decode cX10_best 0 = .ok (.aload_n 0, 1) := by decide +kernel
theorem dX10_best_1 : decode cX10_best 1 = .ok (.iload_n 1, 1) := by decide +kernel
theorem dX10_best_2 : decode cX10_best 2 = .ok (.invokevirtual 157, 3) := by decide +kernel
theorem dX10_best_5 : decode cX10_best 5 = .ok (.ifCond .ne 5, 3) := by decide +kernel
theorem dX10_best_8 : decode cX10_best 8 = .ok (.iconst (-1), 1) := by decide +kernel
theorem dX10_best_9 : decode cX10_best 9 = .ok (.ireturn, 1) := by decide +kernel
theorem dX10_best_10 : decode cX10_best 10 = .ok (.aload_n 0, 1) := by decide +kernel
theorem dX10_best_11 : decode cX10_best 11 = .ok (.iload_n 1, 1) := by decide +kernel
theorem dX10_best_12 : decode cX10_best 12 = .ok (.invokevirtual 168, 3) := by decide +kernel
theorem dX10_best_15 : decode cX10_best 15 = .ok (.istore_n 2, 1) := by decide +kernel
theorem dX10_best_16 : decode cX10_best 16 = .ok (.iload_n 2, 1) := by decide +kernel
theorem dX10_best_17 : decode cX10_best 17 = .ok (.bipush (-3), 2) := by decide +kernel
theorem dX10_best_19 : decode cX10_best 19 = .ok (.if_icmp .ne 6, 3) := by decide +kernel
theorem dX10_best_22 : decode cX10_best 22 = .ok (.bipush (-3), 2) := by decide +kernel
theorem dX10_best_24 : decode cX10_best 24 = .ok (.ireturn, 1) := by decide +kernel
theorem dX10_best_25 : decode cX10_best 25 = .ok (.aload_n 0, 1) := by decide +kernel
theorem dX10_best_26 : decode cX10_best 26 = .ok (.aload_n 0, 1) := by decide +kernel
theorem dX10_best_27 : decode cX10_best 27 = .ok (.getfield 68, 3) := by decide +kernel
theorem dX10_best_30 : decode cX10_best 30 = .ok (.iload_n 2, 1) := by decide +kernel
theorem dX10_best_31 : decode cX10_best 31 = .ok (.aload_n 0, 1) := by decide +kernel
theorem dX10_best_32 : decode cX10_best 32 = .ok (.getfield 72, 3) := by decide +kernel
theorem dX10_best_35 : decode cX10_best 35 = .ok (.aload_n 0, 1) := by decide +kernel
theorem dX10_best_36 : decode cX10_best 36 = .ok (.getfield 75, 3) := by decide +kernel
theorem dX10_best_39 : decode cX10_best 39 = .ok (.invokevirtual 186, 3) := by decide +kernel
theorem dX10_best_42 : decode cX10_best 42 = .ok (.iconst (-1), 1) := by decide +kernel
theorem dX10_best_43 : decode cX10_best 43 = .ok (.istore_n 3, 1) := by decide +kernel
theorem dX10_best_44 : decode cX10_best 44 = .ok (.iconst 0, 1) := by decide +kernel
theorem dX10_best_45 : decode cX10_best 45 = .ok (.istore 4, 2) := by decide +kernel
theorem dX10_best_47 : decode cX10_best 47 = .ok (.iload 4, 2) := by decide +kernel
theorem dX10_best_49 : decode cX10_best 49 = .ok (.bipush 6, 2) := by decide +kernel
theorem dX10_best_51 : decode cX10_best 51 = .ok (.if_icmp .ge 18, 3) := by decide +kernel
theorem dX10_best_54 : decode cX10_best 54 = .ok (.aload_n 0, 1) := by decide +kernel
theorem dX10_best_55 : decode cX10_best 55 = .ok (.getfield 105, 3) := by decide +kernel
theorem dX10_best_58 : decode cX10_best 58 = .ok (.iload 4, 2) := by decide +kernel
theorem dX10_best_60 : decode cX10_best 60 = .ok (.iload 4, 2) := by decide +kernel
theorem dX10_best_62 : decode cX10_best 62 = .ok (.iastore, 1) := by decide +kernel
theorem dX10_best_63 : decode cX10_best 63 = .ok (.iinc 4 1, 3) := by decide +kernel
theorem dX10_best_66 : decode cX10_best 66 = .ok (.goto (-19), 3) := by decide +kernel
theorem dX10_best_69 : decode cX10_best 69 = .ok (.iconst 1, 1) := by decide +kernel
theorem dX10_best_70 : decode cX10_best 70 = .ok (.istore 4, 2) := by decide +kernel
theorem dX10_best_72 : decode cX10_best 72 = .ok (.iload 4, 2) := by decide +kernel
theorem dX10_best_74 : decode cX10_best 74 = .ok (.ifCond .eq 116, 3) := by decide +kernel
theorem dX10_best_77 : decode cX10_best 77 = .ok (.iconst 0, 1) := by decide +kernel
theorem dX10_best_78 : decode cX10_best 78 = .ok (.istore 5, 2) := by decide +kernel
theorem dX10_best_80 : decode cX10_best 80 = .ok (.iload 5, 2) := by decide +kernel
theorem dX10_best_82 : decode cX10_best 82 = .ok (.bipush 6, 2) := by decide +kernel
theorem dX10_best_84 : decode cX10_best 84 = .ok (.if_icmp .gt 97, 3) := by decide +kernel
theorem dX10_best_87 : decode cX10_best 87 = .ok (.iconst 0, 1) := by decide +kernel
theorem dX10_best_88 : decode cX10_best 88 = .ok (.istore 6, 2) := by decide +kernel
theorem dX10_best_90 : decode cX10_best 90 = .ok (.iload 6, 2) := by decide +kernel
theorem dX10_best_92 : decode cX10_best 92 = .ok (.bipush 64, 2) := by decide +kernel
theorem dX10_best_94 : decode cX10_best 94 = .ok (.if_icmp .ge 81, 3) := by decide +kernel
theorem dX10_best_97 : decode cX10_best 97 = .ok (.iload 6, 2) := by decide +kernel
theorem dX10_best_99 : decode cX10_best 99 = .ok (.invokestatic 203, 3) := by decide +kernel
theorem dX10_best_102 : decode cX10_best 102 = .ok (.iload 5, 2) := by decide +kernel
theorem dX10_best_104 : decode cX10_best 104 = .ok (.if_icmp .ne 65, 3) := by decide +kernel
theorem dX10_best_107 : decode cX10_best 107 = .ok (.aload_n 0, 1) := by decide +kernel
theorem dX10_best_108 : decode cX10_best 108 = .ok (.getfield 20, 3) := by decide +kernel
theorem dX10_best_111 : decode cX10_best 111 = .ok (.iload_n 1, 1) := by decide +kernel
theorem dX10_best_112 : decode cX10_best 112 = .ok (.iaload, 1) := by decide +kernel
theorem dX10_best_113 : decode cX10_best 113 = .ok (.ifCond .eq 15, 3) := by decide +kernel
theorem dX10_best_116 : decode cX10_best 116 = .ok (.iload 5, 2) := by decide +kernel
theorem dX10_best_118 : decode cX10_best 118 = .ok (.ifCond .eq 10, 3) := by decide +kernel
