theorem dX0_init_0 : decode cX0_init 0 = .ok (.aload_n 0, 1) := by decide +kernel
theorem dX0_init_1 : decode cX0_init 1 = .ok (.invokespecial 3, 3) := by decide +kernel
theorem dX0_init_4 : decode cX0_init 4 = .ok (.aload_n 0, 1) := by decide +kernel
theorem dX0_init_5 : decode cX0_init 5 = .ok (.aload_n 1, 1) := by decide +kernel
theorem dX0_init_6 : decode cX0_init 6 = .ok (.putfield 9, 3) := by decide +kernel
theorem dX0_init_9 : decode cX0_init 9 = .ok (.aload_n 0, 1) := by decide +kernel
theorem dX0_init_10 : decode cX0_init 10 = .ok (.iload_n 2, 1) := by decide +kernel
theorem dX0_init_11 : decode cX0_init 11 = .ok (.putfield 15, 3) := by decide +kernel
theorem dX0_init_14 : decode cX0_init 14 = .ok (.aload_n 0, 1) := by decide +kernel
theorem dX0_init_15 : decode cX0_init 15 = .ok (.iload_n 3, 1) := by decide +kernel
theorem dX0_init_16 : decode cX0_init 16 = .ok (.putfield 19, 3) := by decide +kernel
theorem dX0_init_19 : decode cX0_init 19 = .ok (.return_, 1) := by decide +kernel
theorem dX0_partOf_0 : decode cX0_partOf 0 = .ok (.iload_n 1, 1) := by decide +kernel
theorem dX0_partOf_1 : decode cX0_partOf 1 = .ok (.ifCond .lt 12, 3) := by decide +kernel
theorem dX0_partOf_4 : decode cX0_partOf 4 = .ok (.iload_n 1, 1) := by decide +kernel
theorem dX0_partOf_5 : decode cX0_partOf 5 = .ok (.aload_n 0, 1) := by decide +kernel
theorem dX0_partOf_6 : decode cX0_partOf 6 = .ok (.getfield 9, 3) := by decide +kernel
theorem dX0_partOf_9 : decode cX0_partOf 9 = .ok (.arraylength, 1) := by decide +kernel
theorem dX0_partOf_10 : decode cX0_partOf 10 = .ok (.if_icmp .lt 5, 3) := by decide +kernel
theorem dX0_partOf_13 : decode cX0_partOf 13 = .ok (.iconst (-1), 1) := by decide +kernel
theorem dX0_partOf_14 : decode cX0_partOf 14 = .ok (.ireturn, 1) := by decide +kernel
theorem dX0_partOf_15 : decode cX0_partOf 15 = .ok (.iload_n 2, 1) := by decide +kernel
theorem dX0_partOf_16 : decode cX0_partOf 16 = .ok (.tableswitch 58 0 2 #[28, 38, 49], 28) := by decide +kernel
theorem dX0_partOf_44 : decode cX0_partOf 44 = .ok (.aload_n 0, 1) := by decide +kernel
theorem dX0_partOf_45 : decode cX0_partOf 45 = .ok (.getfield 9, 3) := by decide +kernel
theorem dX0_partOf_48 : decode cX0_partOf 48 = .ok (.iload_n 1, 1) := by decide +kernel
theorem dX0_partOf_49 : decode cX0_partOf 49 = .ok (.iaload, 1) := by decide +kernel
theorem dX0_partOf_50 : decode cX0_partOf 50 = .ok (.bipush 15, 2) := by decide +kernel
theorem dX0_partOf_52 : decode cX0_partOf 52 = .ok (.iand, 1) := by decide +kernel
theorem dX0_partOf_53 : decode cX0_partOf 53 = .ok (.ireturn, 1) := by decide +kernel
theorem dX0_partOf_54 : decode cX0_partOf 54 = .ok (.aload_n 0, 1) := by decide +kernel
theorem dX0_partOf_55 : decode cX0_partOf 55 = .ok (.getfield 9, 3) := by decide +kernel
theorem dX0_partOf_58 : decode cX0_partOf 58 = .ok (.iload_n 1, 1) := by decide +kernel
theorem dX0_partOf_59 : decode cX0_partOf 59 = .ok (.iaload, 1) := by decide +kernel
theorem dX0_partOf_60 : decode cX0_partOf 60 = .ok (.iconst 4, 1) := by decide +kernel
theorem dX0_partOf_61 : decode cX0_partOf 61 = .ok (.ishr, 1) := by decide +kernel
theorem dX0_partOf_62 : decode cX0_partOf 62 = .ok (.iconst 1, 1) := by decide +kernel
theorem dX0_partOf_63 : decode cX0_partOf 63 = .ok (.iand, 1) := by decide +kernel
theorem dX0_partOf_64 : decode cX0_partOf 64 = .ok (.ireturn, 1) := by decide +kernel
theorem dX0_partOf_65 : decode cX0_partOf 65 = .ok (.aload_n 0, 1) := by decide +kernel
theorem dX0_partOf_66 : decode cX0_partOf 66 = .ok (.getfield 9, 3) := by decide +kernel
theorem dX0_partOf_69 : decode cX0_partOf 69 = .ok (.iload_n 1, 1) := by decide +kernel
theorem dX0_partOf_70 : decode cX0_partOf 70 = .ok (.iaload, 1) := by decide +kernel
theorem dX0_partOf_71 : decode cX0_partOf 71 = .ok (.iconst 5, 1) := by decide +kernel
theorem dX0_partOf_72 : decode cX0_partOf 72 = .ok (.ishr, 1) := by decide +kernel
theorem dX0_partOf_73 : decode cX0_partOf 73 = .ok (.ireturn, 1) := by decide +kernel
theorem dX0_partOf_74 : decode cX0_partOf 74 = .ok (.iconst (-1), 1) := by decide +kernel
theorem dX0_partOf_75 : decode cX0_partOf 75 = .ok (.ireturn, 1) := by decide +kernel
theorem dX0_darken_0 : decode cX0_darken 0 = .ok (.aload_n 0, 1) := by decide +kernel
theorem dX0_darken_1 : decode cX0_darken 1 = .ok (.iload_n 1, 1) := by decide +kernel
theorem dX0_darken_2 : decode cX0_darken 2 = .ok (.putfield 15, 3) := by decide +kernel
theorem dX0_darken_5 : decode cX0_darken 5 = .ok (.iconst 0, 1) := by decide +kernel
theorem dX0_darken_6 : decode cX0_darken 6 = .ok (.istore_n 2, 1) := by decide +kernel
theorem dX0_darken_7 : decode cX0_darken 7 = .ok (.iconst 0, 1) := by decide +kernel
theorem dX0_darken_8 : decode cX0_darken 8 = .ok (.istore_n 3, 1) := by decide +kernel
theorem dX0_darken_9 : decode cX0_darken 9 = .ok (.iload_n 3, 1) := by decide +kernel
theorem dX0_darken_10 : decode cX0_darken 10 = .ok (.aload_n 0, 1) := by decide +kernel
theorem dX0_darken_11 : decode cX0_darken 11 = .ok (.getfield 9, 3) := by decide +kernel
theorem dX0_darken_14 : decode cX0_darken 14 = .ok (.arraylength, 1) := by decide +kernel
theorem dX0_darken_15 : decode cX0_darken 15 = .ok (.if_icmp .ge 42, 3) := by decide +kernel
theorem dX0_darken_18 : decode cX0_darken 18 = .ok (.aload_n 0, 1) := by decide +kernel
theorem dX0_darken_19 : decode cX0_darken 19 = .ok (.getfield 9, 3) := by decide +kernel
theorem dX0_darken_22 : decode cX0_darken 22 = .ok (.iload_n 3, 1) := by decide +kernel
theorem dX0_darken_23 : decode cX0_darken 23 = .ok (.iaload, 1) := by decide +kernel
theorem dX0_darken_24 : decode cX0_darken 24 = .ok (.bipush 15, 2) := by decide +kernel
theorem dX0_darken_26 : decode cX0_darken 26 = .ok (.iand, 1) := by decide +kernel
theorem dX0_darken_27 : decode cX0_darken 27 = .ok (.iload_n 1, 1) := by decide +kernel
theorem dX0_darken_28 : decode cX0_darken 28 = .ok (.if_icmp .ge 23, 3) := by decide +kernel
theorem dX0_darken_31 : decode cX0_darken 31 = .ok (.aload_n 0, 1) := by decide +kernel
theorem dX0_darken_32 : decode cX0_darken 32 = .ok (.getfield 9, 3) := by decide +kernel
theorem dX0_darken_35 : decode cX0_darken 35 = .ok (.iload_n 3, 1) := by decide +kernel
theorem dX0_darken_36 : decode cX0_darken 36 = .ok (.aload_n 0, 1) := by decide +kernel
theorem dX0_darken_37 : decode cX0_darken 37 = .ok (.getfield 9, 3) := by decide +kernel
theorem dX0_darken_40 : decode cX0_darken 40 = .ok (.iload_n 3, 1) := by decide +kernel
theorem dX0_darken_41 : decode cX0_darken 41 = .ok (.iaload, 1) := by decide +kernel
theorem dX0_darken_42 : decode cX0_darken 42 = .ok (.bipush (-16), 2) := by decide +kernel
theorem dX0_darken_44 : decode cX0_darken 44 = .ok (.iand, 1) := by decide +kernel
theorem dX0_darken_45 : decode cX0_darken 45 = .ok (.iload_n 1, 1) := by decide +kernel
theorem dX0_darken_46 : decode cX0_darken 46 = .ok (.ior, 1) := by decide +kernel
theorem dX0_darken_47 : decode cX0_darken 47 = .ok (.iastore, 1) := by decide +kernel
theorem dX0_darken_48 : decode cX0_darken 48 = .ok (.iinc 2 1, 3) := by decide +kernel
theorem dX0_darken_51 : decode cX0_darken 51 = .ok (.iinc 3 1, 3) := by decide +kernel
theorem dX0_darken_54 : decode cX0_darken 54 = .ok (.goto (-45), 3) := by decide +kernel
theorem dX0_darken_57 : decode cX0_darken 57 = .ok (.iload_n 2, 1) := by decide +kernel
theorem dX0_darken_58 : decode cX0_darken 58 = .ok (.ireturn, 1) := by decide +kernel
theorem dX0_canLie_0 : decode cX0_canLie 0 = .ok (.iload_n 1, 1) := by decide +kernel
theorem dX0_canLie_1 : decode cX0_canLie 1 = .ok (.ifCond .lt 19, 3) := by decide +kernel
theorem dX0_canLie_4 : decode cX0_canLie 4 = .ok (.iload_n 1, 1) := by decide +kernel
theorem dX0_canLie_5 : decode cX0_canLie 5 = .ok (.ldc 22, 2) := by decide +kernel
theorem dX0_canLie_7 : decode cX0_canLie 7 = .ok (.if_icmp .ge 13, 3) := by decide +kernel
theorem dX0_canLie_10 : decode cX0_canLie 10 = .ok (.iload_n 2, 1) := by decide +kernel
theorem dX0_canLie_11 : decode cX0_canLie 11 = .ok (.ifCond .lt 9, 3) := by decide +kernel
theorem dX0_canLie_14 : decode cX0_canLie 14 = .ok (.iload_n 2, 1) := by decide +kernel
theorem dX0_canLie_15 : decode cX0_canLie 15 = .ok (.bipush 63, 2) := by decide +kernel
theorem dX0_canLie_17 : decode cX0_canLie 17 = .ok (.if_icmp .le 5, 3) := by decide +kernel
theorem dX0_canLie_20 : decode cX0_canLie 20 = .ok (.iconst 0, 1) := by decide +kernel
theorem dX0_canLie_21 : decode cX0_canLie 21 = .ok (.ireturn, 1) := by decide +kernel
theorem dX0_canLie_22 : decode cX0_canLie 22 = .ok (.aload_n 0, 1) := by decide +kernel
theorem dX0_canLie_23 : decode cX0_canLie 23 = .ok (.getfield 19, 3) := by decide +kernel
theorem dX0_canLie_26 : decode cX0_canLie 26 = .ok (.iconst 1, 1) := by decide +kernel
theorem dX0_canLie_27 : decode cX0_canLie 27 = .ok (.if_icmp .ne 15, 3) := by decide +kernel
theorem dX0_canLie_30 : decode cX0_canLie 30 = .ok (.iload_n 2, 1) := by decide +kernel
theorem dX0_canLie_31 : decode cX0_canLie 31 = .ok (.ifCond .eq 11, 3) := by decide +kernel
theorem dX0_canLie_34 : decode cX0_canLie 34 = .ok (.iload_n 2, 1) := by decide +kernel
theorem dX0_canLie_35 : decode cX0_canLie 35 = .ok (.bipush 63, 2) := by decide +kernel
theorem dX0_canLie_37 : decode cX0_canLie 37 = .ok (.if_icmp .eq 5, 3) := by decide +kernel
theorem dX0_canLie_40 : decode cX0_canLie 40 = .ok (.iconst 0, 1) := by decide +kernel
theorem dX0_canLie_41 : decode cX0_canLie 41 = .ok (.ireturn, 1) := by decide +kernel
theorem dX0_canLie_42 : decode cX0_canLie 42 = .ok (.iconst 0, 1) := by decide +kernel
theorem dX0_canLie_43 : decode cX0_canLie 43 = .ok (.istore_n 3, 1) := by decide +kernel
theorem dX0_canLie_44 : decode cX0_canLie 44 = .ok (.iconst 0, 1) := by decide +kernel
theorem dX0_canLie_45 : decode cX0_canLie 45 = .ok (.istore 4, 2) := by decide +kernel
theorem dX0_canLie_47 : decode cX0_canLie 47 = .ok (.iload 4, 2) := by decide +kernel
theorem dX0_canLie_49 : decode cX0_canLie 49 = .ok (.bipush 6, 2) := by decide +kernel
theorem dX0_canLie_51 : decode cX0_canLie 51 = .ok (.if_icmp .ge 20, 3) := by decide +kernel
theorem dX0_canLie_54 : decode cX0_canLie 54 = .ok (.iload_n 3, 1) := by decide +kernel
theorem dX0_canLie_55 : decode cX0_canLie 55 = .ok (.iconst 1, 1) := by decide +kernel
theorem dX0_canLie_56 : decode cX0_canLie 56 = .ok (.iload_n 1, 1) := by decide +kernel
theorem dX0_canLie_57 : decode cX0_canLie 57 = .ok (.iload 4, 2) := by decide +kernel
theorem dX0_canLie_59 : decode cX0_canLie 59 = .ok (.invokestatic 23, 3) := by decide +kernel
theorem dX0_canLie_62 : decode cX0_canLie 62 = .ok (.ishl, 1) := by decide +kernel
theorem dX0_canLie_63 : decode cX0_canLie 63 = .ok (.ior, 1) := by decide +kernel
theorem dX0_canLie_64 : decode cX0_canLie 64 = .ok (.istore_n 3, 1) := by decide +kernel
theorem dX0_canLie_65 : decode cX0_canLie 65 = .ok (.iinc 4 1, 3) := by decide +kernel
theorem dX0_canLie_68 : decode cX0_canLie 68 = .ok (.goto (-21), 3) := by decide +kernel
theorem dX0_canLie_71 : decode cX0_canLie 71 = .ok (.iload_n 3, 1) := by decide +kernel
theorem dX0_canLie_72 : decode cX0_canLie 72 = .ok (.bipush 63, 2) := by decide +kernel
theorem dX0_canLie_74 : decode cX0_canLie 74 = .ok (.if_icmp .ne 7, 3) := by decide +kernel
theorem dX0_canLie_77 : decode cX0_canLie 77 = .ok (.iconst 1, 1) := by decide +kernel
theorem dX0_canLie_78 : decode cX0_canLie 78 = .ok (.goto 4, 3) := by decide +kernel
theorem dX0_canLie_81 : decode cX0_canLie 81 = .ok (.iconst 0, 1) := by decide +kernel
theorem dX0_canLie_82 : decode cX0_canLie 82 = .ok (.ireturn, 1) := by decide +kernel
