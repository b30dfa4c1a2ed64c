theorem dX4_init_0 : decode cX4_init 0 = .ok (.aload_n 0, 1) := by decide +kernel
theorem dX4_init_1 : decode cX4_init 1 = .ok (.invokespecial 3, 3) := by decide +kernel
theorem dX4_init_4 : decode cX4_init 4 = .ok (.aload_n 0, 1) := by decide +kernel
theorem dX4_init_5 : decode cX4_init 5 = .ok (.aconst_null, 1) := by decide +kernel
theorem dX4_init_6 : decode cX4_init 6 = .ok (.putfield 9, 3) := by decide +kernel
theorem dX4_init_9 : decode cX4_init 9 = .ok (.aload_n 0, 1) := by decide +kernel
theorem dX4_init_10 : decode cX4_init 10 = .ok (.iconst (-1), 1) := by decide +kernel
theorem dX4_init_11 : decode cX4_init 11 = .ok (.putfield 15, 3) := by decide +kernel
theorem dX4_init_14 : decode cX4_init 14 = .ok (.aload_n 0, 1) := by decide +kernel
theorem dX4_init_15 : decode cX4_init 15 = .ok (.iconst (-1), 1) := by decide +kernel
theorem dX4_init_16 : decode cX4_init 16 = .ok (.putfield 19, 3) := by decide +kernel
theorem dX4_init_19 : decode cX4_init 19 = .ok (.aload_n 0, 1) := by decide +kernel
theorem dX4_init_20 : decode cX4_init 20 = .ok (.aload_n 1, 1) := by decide +kernel
theorem dX4_init_21 : decode cX4_init 21 = .ok (.putfield 22, 3) := by decide +kernel
theorem dX4_init_24 : decode cX4_init 24 = .ok (.aload_n 0, 1) := by decide +kernel
theorem dX4_init_25 : decode cX4_init 25 = .ok (.aload_n 2, 1) := by decide +kernel
theorem dX4_init_26 : decode cX4_init 26 = .ok (.putfield 25, 3) := by decide +kernel
theorem dX4_init_29 : decode cX4_init 29 = .ok (.return_, 1) := by decide +kernel
theorem dX4_isAtHand_0 : decode cX4_isAtHand 0 = .ok (.aload_n 0, 1) := by decide +kernel
theorem dX4_isAtHand_1 : decode cX4_isAtHand 1 = .ok (.getfield 15, 3) := by decide +kernel
theorem dX4_isAtHand_4 : decode cX4_isAtHand 4 = .ok (.iconst (-1), 1) := by decide +kernel
theorem dX4_isAtHand_5 : decode cX4_isAtHand 5 = .ok (.if_icmp .eq 15, 3) := by decide +kernel
theorem dX4_isAtHand_8 : decode cX4_isAtHand 8 = .ok (.aload_n 0, 1) := by decide +kernel
theorem dX4_isAtHand_9 : decode cX4_isAtHand 9 = .ok (.getfield 19, 3) := by decide +kernel
theorem dX4_isAtHand_12 : decode cX4_isAtHand 12 = .ok (.iconst (-1), 1) := by decide +kernel
theorem dX4_isAtHand_13 : decode cX4_isAtHand 13 = .ok (.if_icmp .ne 7, 3) := by decide +kernel
theorem dX4_isAtHand_16 : decode cX4_isAtHand 16 = .ok (.iconst 1, 1) := by decide +kernel
theorem dX4_isAtHand_17 : decode cX4_isAtHand 17 = .ok (.goto 4, 3) := by decide +kernel
theorem dX4_isAtHand_20 : decode cX4_isAtHand 20 = .ok (.iconst 0, 1) := by decide +kernel
theorem dX4_isAtHand_21 : decode cX4_isAtHand 21 = .ok (.ireturn, 1) := by decide +kernel
theorem dX4_liningRows_0 : decode cX4_liningRows 0 = .ok (.aload_n 0, 1) := by decide +kernel
theorem dX4_liningRows_1 : decode cX4_liningRows 1 = .ok (.getfield 9, 3) := by decide +kernel
theorem dX4_liningRows_4 : decode cX4_liningRows 4 = .ok (.ifnonnull 7, 3) := by decide +kernel
theorem dX4_liningRows_7 : decode cX4_liningRows 7 = .ok (.iconst 0, 1) := by decide +kernel
theorem dX4_liningRows_8 : decode cX4_liningRows 8 = .ok (.goto 11, 3) := by decide +kernel
theorem dX4_liningRows_11 : decode cX4_liningRows 11 = .ok (.aload_n 0, 1) := by decide +kernel
theorem dX4_liningRows_12 : decode cX4_liningRows 12 = .ok (.getfield 9, 3) := by decide +kernel
theorem dX4_liningRows_15 : decode cX4_liningRows 15 = .ok (.getfield 29, 3) := by decide +kernel
theorem dX4_liningRows_18 : decode cX4_liningRows 18 = .ok (.arraylength, 1) := by decide +kernel
theorem dX4_liningRows_19 : decode cX4_liningRows 19 = .ok (.ireturn, 1) := by decide +kernel
theorem dX4_startOf_0 : decode cX4_startOf 0 = .ok (.iconst 0, 1) := by decide +kernel
theorem dX4_startOf_1 : decode cX4_startOf 1 = .ok (.istore_n 2, 1) := by decide +kernel
theorem dX4_startOf_2 : decode cX4_startOf 2 = .ok (.iconst 0, 1) := by decide +kernel
theorem dX4_startOf_3 : decode cX4_startOf 3 = .ok (.istore_n 3, 1) := by decide +kernel
theorem dX4_startOf_4 : decode cX4_startOf 4 = .ok (.iload_n 3, 1) := by decide +kernel
theorem dX4_startOf_5 : decode cX4_startOf 5 = .ok (.iload_n 1, 1) := by decide +kernel
theorem dX4_startOf_6 : decode cX4_startOf 6 = .ok (.if_icmp .ge 24, 3) := by decide +kernel
theorem dX4_startOf_9 : decode cX4_startOf 9 = .ok (.iload_n 3, 1) := by decide +kernel
theorem dX4_startOf_10 : decode cX4_startOf 10 = .ok (.bipush 6, 2) := by decide +kernel
theorem dX4_startOf_12 : decode cX4_startOf 12 = .ok (.if_icmp .ge 18, 3) := by decide +kernel
theorem dX4_startOf_15 : decode cX4_startOf 15 = .ok (.iload_n 2, 1) := by decide +kernel
theorem dX4_startOf_16 : decode cX4_startOf 16 = .ok (.aload_n 0, 1) := by decide +kernel
theorem dX4_startOf_17 : decode cX4_startOf 17 = .ok (.getfield 25, 3) := by decide +kernel
theorem dX4_startOf_20 : decode cX4_startOf 20 = .ok (.iload_n 3, 1) := by decide +kernel
theorem dX4_startOf_21 : decode cX4_startOf 21 = .ok (.iaload, 1) := by decide +kernel
theorem dX4_startOf_22 : decode cX4_startOf 22 = .ok (.iadd, 1) := by decide +kernel
theorem dX4_startOf_23 : decode cX4_startOf 23 = .ok (.istore_n 2, 1) := by decide +kernel
theorem dX4_startOf_24 : decode cX4_startOf 24 = .ok (.iinc 3 1, 3) := by decide +kernel
theorem dX4_startOf_27 : decode cX4_startOf 27 = .ok (.goto (-23), 3) := by decide +kernel
theorem dX4_startOf_30 : decode cX4_startOf 30 = .ok (.iload_n 2, 1) := by decide +kernel
theorem dX4_startOf_31 : decode cX4_startOf 31 = .ok (.ireturn, 1) := by decide +kernel
theorem dX4_wearOnce_0 : decode cX4_wearOnce 0 = .ok (.iconst 0, 1) := by decide +kernel
theorem dX4_wearOnce_1 : decode cX4_wearOnce 1 = .ok (.istore_n 1, 1) := by decide +kernel
theorem dX4_wearOnce_2 : decode cX4_wearOnce 2 = .ok (.iconst 0, 1) := by decide +kernel
theorem dX4_wearOnce_3 : decode cX4_wearOnce 3 = .ok (.istore_n 2, 1) := by decide +kernel
theorem dX4_wearOnce_4 : decode cX4_wearOnce 4 = .ok (.iconst 0, 1) := by decide +kernel
theorem dX4_wearOnce_5 : decode cX4_wearOnce 5 = .ok (.istore_n 3, 1) := by decide +kernel
theorem dX4_wearOnce_6 : decode cX4_wearOnce 6 = .ok (.iload_n 3, 1) := by decide +kernel
theorem dX4_wearOnce_7 : decode cX4_wearOnce 7 = .ok (.bipush 6, 2) := by decide +kernel
theorem dX4_wearOnce_9 : decode cX4_wearOnce 9 = .ok (.if_icmp .ge 87, 3) := by decide +kernel
theorem dX4_wearOnce_12 : decode cX4_wearOnce 12 = .ok (.iconst 0, 1) := by decide +kernel
theorem dX4_wearOnce_13 : decode cX4_wearOnce 13 = .ok (.istore 4, 2) := by decide +kernel
theorem dX4_wearOnce_15 : decode cX4_wearOnce 15 = .ok (.iload 4, 2) := by decide +kernel
theorem dX4_wearOnce_17 : decode cX4_wearOnce 17 = .ok (.aload_n 0, 1) := by decide +kernel
theorem dX4_wearOnce_18 : decode cX4_wearOnce 18 = .ok (.getfield 25, 3) := by decide +kernel
theorem dX4_wearOnce_21 : decode cX4_wearOnce 21 = .ok (.iload_n 3, 1) := by decide +kernel
theorem dX4_wearOnce_22 : decode cX4_wearOnce 22 = .ok (.iaload, 1) := by decide +kernel
theorem dX4_wearOnce_23 : decode cX4_wearOnce 23 = .ok (.if_icmp .ge 67, 3) := by decide +kernel
theorem dX4_wearOnce_26 : decode cX4_wearOnce 26 = .ok (.iload_n 2, 1) := by decide +kernel
theorem dX4_wearOnce_27 : decode cX4_wearOnce 27 = .ok (.aload_n 0, 1) := by decide +kernel
theorem dX4_wearOnce_28 : decode cX4_wearOnce 28 = .ok (.getfield 22, 3) := by decide +kernel
theorem dX4_wearOnce_31 : decode cX4_wearOnce 31 = .ok (.getfield 29, 3) := by decide +kernel
theorem dX4_wearOnce_34 : decode cX4_wearOnce 34 = .ok (.arraylength, 1) := by decide +kernel
theorem dX4_wearOnce_35 : decode cX4_wearOnce 35 = .ok (.if_icmp .ge 55, 3) := by decide +kernel
theorem dX4_wearOnce_38 : decode cX4_wearOnce 38 = .ok (.aload_n 0, 1) := by decide +kernel
theorem dX4_wearOnce_39 : decode cX4_wearOnce 39 = .ok (.iload_n 3, 1) := by decide +kernel
theorem dX4_wearOnce_40 : decode cX4_wearOnce 40 = .ok (.iload 4, 2) := by decide +kernel
theorem dX4_wearOnce_42 : decode cX4_wearOnce 42 = .ok (.invokevirtual 34, 3) := by decide +kernel
theorem dX4_wearOnce_45 : decode cX4_wearOnce 45 = .ok (.ifCond .eq 36, 3) := by decide +kernel
theorem dX4_wearOnce_48 : decode cX4_wearOnce 48 = .ok (.aload_n 0, 1) := by decide +kernel
theorem dX4_wearOnce_49 : decode cX4_wearOnce 49 = .ok (.getfield 22, 3) := by decide +kernel
theorem dX4_wearOnce_52 : decode cX4_wearOnce 52 = .ok (.getfield 29, 3) := by decide +kernel
theorem dX4_wearOnce_55 : decode cX4_wearOnce 55 = .ok (.iload_n 2, 1) := by decide +kernel
theorem dX4_wearOnce_56 : decode cX4_wearOnce 56 = .ok (.iaload, 1) := by decide +kernel
theorem dX4_wearOnce_57 : decode cX4_wearOnce 57 = .ok (.iconst 5, 1) := by decide +kernel
theorem dX4_wearOnce_58 : decode cX4_wearOnce 58 = .ok (.ishr, 1) := by decide +kernel
theorem dX4_wearOnce_59 : decode cX4_wearOnce 59 = .ok (.bipush 9, 2) := by decide +kernel
theorem dX4_wearOnce_61 : decode cX4_wearOnce 61 = .ok (.if_icmp .ge 20, 3) := by decide +kernel
theorem dX4_wearOnce_64 : decode cX4_wearOnce 64 = .ok (.aload_n 0, 1) := by decide +kernel
theorem dX4_wearOnce_65 : decode cX4_wearOnce 65 = .ok (.getfield 22, 3) := by decide +kernel
theorem dX4_wearOnce_68 : decode cX4_wearOnce 68 = .ok (.getfield 29, 3) := by decide +kernel
theorem dX4_wearOnce_71 : decode cX4_wearOnce 71 = .ok (.iload_n 2, 1) := by decide +kernel
theorem dX4_wearOnce_72 : decode cX4_wearOnce 72 = .ok (.dup2, 1) := by decide +kernel
theorem dX4_wearOnce_73 : decode cX4_wearOnce 73 = .ok (.iaload, 1) := by decide +kernel
theorem dX4_wearOnce_74 : decode cX4_wearOnce 74 = .ok (.bipush 32, 2) := by decide +kernel
theorem dX4_wearOnce_76 : decode cX4_wearOnce 76 = .ok (.iadd, 1) := by decide +kernel
theorem dX4_wearOnce_77 : decode cX4_wearOnce 77 = .ok (.iastore, 1) := by decide +kernel
theorem dX4_wearOnce_78 : decode cX4_wearOnce 78 = .ok (.iinc 1 1, 3) := by decide +kernel
theorem dX4_wearOnce_81 : decode cX4_wearOnce 81 = .ok (.iinc 2 1, 3) := by decide +kernel
theorem dX4_wearOnce_84 : decode cX4_wearOnce 84 = .ok (.iinc 4 1, 3) := by decide +kernel
theorem dX4_wearOnce_87 : decode cX4_wearOnce 87 = .ok (.goto (-72), 3) := by decide +kernel
theorem dX4_wearOnce_90 : decode cX4_wearOnce 90 = .ok (.iinc 3 1, 3) := by decide +kernel
theorem dX4_wearOnce_93 : decode cX4_wearOnce 93 = .ok (.goto (-87), 3) := by decide +kernel
theorem dX4_wearOnce_96 : decode cX4_wearOnce 96 = .ok (.iload_n 1, 1) := by decide +kernel
theorem dX4_wearOnce_97 : decode cX4_wearOnce 97 = .ok (.ireturn, 1) := by decide +kernel
theorem dX4_wearsAt_0 : decode cX4_wearsAt 0 = .ok (.iload_n 1, 1) := by decide +kernel
theorem dX4_wearsAt_1 : decode cX4_wearsAt 1 = .ok (.tableswitch 70 0 5 #[39, 39, 57, 57, 70, 68], 39) := by decide +kernel
theorem dX4_wearsAt_40 : decode cX4_wearsAt 40 = .ok (.iload_n 2, 1) := by decide +kernel
theorem dX4_wearsAt_41 : decode cX4_wearsAt 41 = .ok (.aload_n 0, 1) := by decide +kernel
theorem dX4_wearsAt_42 : decode cX4_wearsAt 42 = .ok (.getfield 25, 3) := by decide +kernel
theorem dX4_wearsAt_45 : decode cX4_wearsAt 45 = .ok (.iload_n 1, 1) := by decide +kernel
theorem dX4_wearsAt_46 : decode cX4_wearsAt 46 = .ok (.iaload, 1) := by decide +kernel
theorem dX4_wearsAt_47 : decode cX4_wearsAt 47 = .ok (.iconst 2, 1) := by decide +kernel
theorem dX4_wearsAt_48 : decode cX4_wearsAt 48 = .ok (.idiv, 1) := by decide +kernel
theorem dX4_wearsAt_49 : decode cX4_wearsAt 49 = .ok (.if_icmp .ne 7, 3) := by decide +kernel
theorem dX4_wearsAt_52 : decode cX4_wearsAt 52 = .ok (.iconst 1, 1) := by decide +kernel
theorem dX4_wearsAt_53 : decode cX4_wearsAt 53 = .ok (.goto 4, 3) := by decide +kernel
theorem dX4_wearsAt_56 : decode cX4_wearsAt 56 = .ok (.iconst 0, 1) := by decide +kernel
theorem dX4_wearsAt_57 : decode cX4_wearsAt 57 = .ok (.ireturn, 1) := by decide +kernel
theorem dX4_wearsAt_58 : decode cX4_wearsAt 58 = .ok (.iload_n 2, 1) := by decide +kernel
theorem dX4_wearsAt_59 : decode cX4_wearsAt 59 = .ok (.iconst 3, 1) := by decide +kernel
theorem dX4_wearsAt_60 : decode cX4_wearsAt 60 = .ok (.if_icmp .ge 7, 3) := by decide +kernel
theorem dX4_wearsAt_63 : decode cX4_wearsAt 63 = .ok (.iconst 1, 1) := by decide +kernel
theorem dX4_wearsAt_64 : decode cX4_wearsAt 64 = .ok (.goto 4, 3) := by decide +kernel
theorem dX4_wearsAt_67 : decode cX4_wearsAt 67 = .ok (.iconst 0, 1) := by decide +kernel
theorem dX4_wearsAt_68 : decode cX4_wearsAt 68 = .ok (.ireturn, 1) := by decide +kernel
theorem dX4_wearsAt_69 : decode cX4_wearsAt 69 = .ok (.iconst 1, 1) := by decide +kernel
theorem dX4_wearsAt_70 : decode cX4_wearsAt 70 = .ok (.ireturn, 1) := by decide +kernel
theorem dX4_wearsAt_71 : decode cX4_wearsAt 71 = .ok (.iconst 0, 1) := by decide +kernel
theorem dX4_wearsAt_72 : decode cX4_wearsAt 72 = .ok (.ireturn, 1) := by decide +kernel
