theorem dX8_init_0 : decode cX8_init 0 = .ok (.aload_n 0, 1) := by decide +kernel
theorem dX8_init_1 : decode cX8_init 1 = .ok (.invokespecial 3, 3) := by decide +kernel
theorem dX8_init_4 : decode cX8_init 4 = .ok (.aload_n 0, 1) := by decide +kernel
theorem dX8_init_5 : decode cX8_init 5 = .ok (.sipush 130, 3) := by decide +kernel
theorem dX8_init_8 : decode cX8_init 8 = .ok (.newarray .int, 2) := by decide +kernel
theorem dX8_init_10 : decode cX8_init 10 = .ok (.putfield 9, 3) := by decide +kernel
theorem dX8_init_13 : decode cX8_init 13 = .ok (.aload_n 0, 1) := by decide +kernel
theorem dX8_init_14 : decode cX8_init 14 = .ok (.bipush 120, 2) := by decide +kernel
theorem dX8_init_16 : decode cX8_init 16 = .ok (.newarray .int, 2) := by decide +kernel
theorem dX8_init_18 : decode cX8_init 18 = .ok (.putfield 15, 3) := by decide +kernel
theorem dX8_init_21 : decode cX8_init 21 = .ok (.return_, 1) := by decide +kernel
theorem dX8_push_0 : decode cX8_push 0 = .ok (.bipush 8, 2) := by decide +kernel
theorem dX8_push_2 : decode cX8_push 2 = .ok (.iload_n 3, 1) := by decide +kernel
theorem dX8_push_3 : decode cX8_push 3 = .ok (.iconst 1, 1) := by decide +kernel
theorem dX8_push_4 : decode cX8_push 4 = .ok (.isub, 1) := by decide +kernel
theorem dX8_push_5 : decode cX8_push 5 = .ok (.imul, 1) := by decide +kernel
theorem dX8_push_6 : decode cX8_push 6 = .ok (.istore 4, 2) := by decide +kernel
theorem dX8_push_8 : decode cX8_push 8 = .ok (.iload 4, 2) := by decide +kernel
theorem dX8_push_10 : decode cX8_push 10 = .ok (.ifCond .lt 47, 3) := by decide +kernel
theorem dX8_push_13 : decode cX8_push 13 = .ok (.aload_n 0, 1) := by decide +kernel
theorem dX8_push_14 : decode cX8_push 14 = .ok (.getfield 18, 3) := by decide +kernel
theorem dX8_push_17 : decode cX8_push 17 = .ok (.sipush 130, 3) := by decide +kernel
theorem dX8_push_20 : decode cX8_push 20 = .ok (.if_icmp .ge 37, 3) := by decide +kernel
theorem dX8_push_23 : decode cX8_push 23 = .ok (.aload_n 0, 1) := by decide +kernel
theorem dX8_push_24 : decode cX8_push 24 = .ok (.getfield 9, 3) := by decide +kernel
theorem dX8_push_27 : decode cX8_push 27 = .ok (.aload_n 0, 1) := by decide +kernel
theorem dX8_push_28 : decode cX8_push 28 = .ok (.getfield 18, 3) := by decide +kernel
theorem dX8_push_31 : decode cX8_push 31 = .ok (.lload_n 1, 1) := by decide +kernel
theorem dX8_push_32 : decode cX8_push 32 = .ok (.iload 4, 2) := by decide +kernel
theorem dX8_push_34 : decode cX8_push 34 = .ok (.lshr, 1) := by decide +kernel
theorem dX8_push_35 : decode cX8_push 35 = .ok (.ldc2_w 22, 3) := by decide +kernel
theorem dX8_push_38 : decode cX8_push 38 = .ok (.land, 1) := by decide +kernel
theorem dX8_push_39 : decode cX8_push 39 = .ok (.l2i, 1) := by decide +kernel
theorem dX8_push_40 : decode cX8_push 40 = .ok (.iastore, 1) := by decide +kernel
theorem dX8_push_41 : decode cX8_push 41 = .ok (.aload_n 0, 1) := by decide +kernel
theorem dX8_push_42 : decode cX8_push 42 = .ok (.dup, 1) := by decide +kernel
theorem dX8_push_43 : decode cX8_push 43 = .ok (.getfield 18, 3) := by decide +kernel
theorem dX8_push_46 : decode cX8_push 46 = .ok (.iconst 1, 1) := by decide +kernel
theorem dX8_push_47 : decode cX8_push 47 = .ok (.iadd, 1) := by decide +kernel
theorem dX8_push_48 : decode cX8_push 48 = .ok (.putfield 18, 3) := by decide +kernel
theorem dX8_push_51 : decode cX8_push 51 = .ok (.iinc 4 (-8), 3) := by decide +kernel
theorem dX8_push_54 : decode cX8_push 54 = .ok (.goto (-46), 3) := by decide +kernel
theorem dX8_push_57 : decode cX8_push 57 = .ok (.return_, 1) := by decide +kernel
theorem dX8_byteAt_0 : decode cX8_byteAt 0 = .ok (.iload_n 1, 1) := by decide +kernel
theorem dX8_byteAt_1 : decode cX8_byteAt 1 = .ok (.ifCond .lt 20, 3) := by decide +kernel
theorem dX8_byteAt_4 : decode cX8_byteAt 4 = .ok (.iload_n 1, 1) := by decide +kernel
theorem dX8_byteAt_5 : decode cX8_byteAt 5 = .ok (.aload_n 0, 1) := by decide +kernel
theorem dX8_byteAt_6 : decode cX8_byteAt 6 = .ok (.getfield 18, 3) := by decide +kernel
theorem dX8_byteAt_9 : decode cX8_byteAt 9 = .ok (.if_icmp .ge 12, 3) := by decide +kernel
theorem dX8_byteAt_12 : decode cX8_byteAt 12 = .ok (.aload_n 0, 1) := by decide +kernel
theorem dX8_byteAt_13 : decode cX8_byteAt 13 = .ok (.getfield 9, 3) := by decide +kernel
theorem dX8_byteAt_16 : decode cX8_byteAt 16 = .ok (.iload_n 1, 1) := by decide +kernel
theorem dX8_byteAt_17 : decode cX8_byteAt 17 = .ok (.iaload, 1) := by decide +kernel
theorem dX8_byteAt_18 : decode cX8_byteAt 18 = .ok (.goto 4, 3) := by decide +kernel
theorem dX8_byteAt_21 : decode cX8_byteAt 21 = .ok (.iconst (-1), 1) := by decide +kernel
theorem dX8_byteAt_22 : decode cX8_byteAt 22 = .ok (.ireturn, 1) := by decide +kernel
theorem dX8_isDigitAt_0 : decode cX8_isDigitAt 0 = .ok (.aload_n 0, 1) := by decide +kernel
theorem dX8_isDigitAt_1 : decode cX8_isDigitAt 1 = .ok (.iload_n 1, 1) := by decide +kernel
theorem dX8_isDigitAt_2 : decode cX8_isDigitAt 2 = .ok (.invokevirtual 24, 3) := by decide +kernel
theorem dX8_isDigitAt_5 : decode cX8_isDigitAt 5 = .ok (.istore_n 2, 1) := by decide +kernel
theorem dX8_isDigitAt_6 : decode cX8_isDigitAt 6 = .ok (.iload_n 2, 1) := by decide +kernel
theorem dX8_isDigitAt_7 : decode cX8_isDigitAt 7 = .ok (.bipush 48, 2) := by decide +kernel
theorem dX8_isDigitAt_9 : decode cX8_isDigitAt 9 = .ok (.if_icmp .lt 13, 3) := by decide +kernel
theorem dX8_isDigitAt_12 : decode cX8_isDigitAt 12 = .ok (.iload_n 2, 1) := by decide +kernel
theorem dX8_isDigitAt_13 : decode cX8_isDigitAt 13 = .ok (.bipush 57, 2) := by decide +kernel
theorem dX8_isDigitAt_15 : decode cX8_isDigitAt 15 = .ok (.if_icmp .gt 7, 3) := by decide +kernel
theorem dX8_isDigitAt_18 : decode cX8_isDigitAt 18 = .ok (.iconst 1, 1) := by decide +kernel
theorem dX8_isDigitAt_19 : decode cX8_isDigitAt 19 = .ok (.goto 4, 3) := by decide +kernel
theorem dX8_isDigitAt_22 : decode cX8_isDigitAt 22 = .ok (.iconst 0, 1) := by decide +kernel
theorem dX8_isDigitAt_23 : decode cX8_isDigitAt 23 = .ok (.ireturn, 1) := by decide +kernel
theorem dX8_readRows_0 : decode cX8_readRows 0 = .ok (.iconst 0, 1) := by decide +kernel
theorem dX8_readRows_1 : decode cX8_readRows 1 = .ok (.istore_n 1, 1) := by decide +kernel
theorem dX8_readRows_2 : decode cX8_readRows 2 = .ok (.iconst 0, 1) := by decide +kernel
theorem dX8_readRows_3 : decode cX8_readRows 3 = .ok (.istore_n 2, 1) := by decide +kernel
theorem dX8_readRows_4 : decode cX8_readRows 4 = .ok (.iload_n 2, 1) := by decide +kernel
theorem dX8_readRows_5 : decode cX8_readRows 5 = .ok (.aload_n 0, 1) := by decide +kernel
theorem dX8_readRows_6 : decode cX8_readRows 6 = .ok (.getfield 18, 3) := by decide +kernel
theorem dX8_readRows_9 : decode cX8_readRows 9 = .ok (.if_icmp .ge 92, 3) := by decide +kernel
theorem dX8_readRows_12 : decode cX8_readRows 12 = .ok (.aload_n 0, 1) := by decide +kernel
theorem dX8_readRows_13 : decode cX8_readRows 13 = .ok (.iload_n 2, 1) := by decide +kernel
theorem dX8_readRows_14 : decode cX8_readRows 14 = .ok (.invokevirtual 28, 3) := by decide +kernel
theorem dX8_readRows_17 : decode cX8_readRows 17 = .ok (.ifCond .eq 29, 3) := by decide +kernel
theorem dX8_readRows_20 : decode cX8_readRows 20 = .ok (.iload_n 1, 1) := by decide +kernel
theorem dX8_readRows_21 : decode cX8_readRows 21 = .ok (.bipush 120, 2) := by decide +kernel
theorem dX8_readRows_23 : decode cX8_readRows 23 = .ok (.if_icmp .ge 23, 3) := by decide +kernel
theorem dX8_readRows_26 : decode cX8_readRows 26 = .ok (.aload_n 0, 1) := by decide +kernel
theorem dX8_readRows_27 : decode cX8_readRows 27 = .ok (.getfield 15, 3) := by decide +kernel
theorem dX8_readRows_30 : decode cX8_readRows 30 = .ok (.iload_n 1, 1) := by decide +kernel
theorem dX8_readRows_31 : decode cX8_readRows 31 = .ok (.aload_n 0, 1) := by decide +kernel
theorem dX8_readRows_32 : decode cX8_readRows 32 = .ok (.iload_n 2, 1) := by decide +kernel
theorem dX8_readRows_33 : decode cX8_readRows 33 = .ok (.invokevirtual 24, 3) := by decide +kernel
theorem dX8_readRows_36 : decode cX8_readRows 36 = .ok (.bipush 48, 2) := by decide +kernel
theorem dX8_readRows_38 : decode cX8_readRows 38 = .ok (.isub, 1) := by decide +kernel
theorem dX8_readRows_39 : decode cX8_readRows 39 = .ok (.iastore, 1) := by decide +kernel
theorem dX8_readRows_40 : decode cX8_readRows 40 = .ok (.iinc 1 1, 3) := by decide +kernel
theorem dX8_readRows_43 : decode cX8_readRows 43 = .ok (.goto 52, 3) := by decide +kernel
theorem dX8_readRows_46 : decode cX8_readRows 46 = .ok (.aload_n 0, 1) := by decide +kernel
theorem dX8_readRows_47 : decode cX8_readRows 47 = .ok (.iload_n 2, 1) := by decide +kernel
theorem dX8_readRows_48 : decode cX8_readRows 48 = .ok (.invokevirtual 24, 3) := by decide +kernel
theorem dX8_readRows_51 : decode cX8_readRows 51 = .ok (.bipush 33, 2) := by decide +kernel
theorem dX8_readRows_53 : decode cX8_readRows 53 = .ok (.if_icmp .ne 37, 3) := by decide +kernel
theorem dX8_readRows_56 : decode cX8_readRows 56 = .ok (.iload_n 1, 1) := by decide +kernel
theorem dX8_readRows_57 : decode cX8_readRows 57 = .ok (.ifCond .le 33, 3) := by decide +kernel
theorem dX8_readRows_60 : decode cX8_readRows 60 = .ok (.aload_n 0, 1) := by decide +kernel
theorem dX8_readRows_61 : decode cX8_readRows 61 = .ok (.getfield 15, 3) := by decide +kernel
theorem dX8_readRows_64 : decode cX8_readRows 64 = .ok (.iload_n 1, 1) := by decide +kernel
theorem dX8_readRows_65 : decode cX8_readRows 65 = .ok (.iconst 1, 1) := by decide +kernel
theorem dX8_readRows_66 : decode cX8_readRows 66 = .ok (.isub, 1) := by decide +kernel
theorem dX8_readRows_67 : decode cX8_readRows 67 = .ok (.iaload, 1) := by decide +kernel
theorem dX8_readRows_68 : decode cX8_readRows 68 = .ok (.bipush 16, 2) := by decide +kernel
theorem dX8_readRows_70 : decode cX8_readRows 70 = .ok (.iand, 1) := by decide +kernel
theorem dX8_readRows_71 : decode cX8_readRows 71 = .ok (.ifCond .ne 19, 3) := by decide +kernel
theorem dX8_readRows_74 : decode cX8_readRows 74 = .ok (.aload_n 0, 1) := by decide +kernel
theorem dX8_readRows_75 : decode cX8_readRows 75 = .ok (.getfield 15, 3) := by decide +kernel
theorem dX8_readRows_78 : decode cX8_readRows 78 = .ok (.iload_n 1, 1) := by decide +kernel
theorem dX8_readRows_79 : decode cX8_readRows 79 = .ok (.iconst 1, 1) := by decide +kernel
theorem dX8_readRows_80 : decode cX8_readRows 80 = .ok (.isub, 1) := by decide +kernel
theorem dX8_readRows_81 : decode cX8_readRows 81 = .ok (.dup2, 1) := by decide +kernel
theorem dX8_readRows_82 : decode cX8_readRows 82 = .ok (.iaload, 1) := by decide +kernel
theorem dX8_readRows_83 : decode cX8_readRows 83 = .ok (.bipush 16, 2) := by decide +kernel
theorem dX8_readRows_85 : decode cX8_readRows 85 = .ok (.ior, 1) := by decide +kernel
theorem dX8_readRows_86 : decode cX8_readRows 86 = .ok (.iastore, 1) := by decide +kernel
theorem dX8_readRows_87 : decode cX8_readRows 87 = .ok (.goto 8, 3) := by decide +kernel
theorem dX8_readRows_90 : decode cX8_readRows 90 = .ok (.bipush (-10), 2) := by decide +kernel
theorem dX8_readRows_92 : decode cX8_readRows 92 = .ok (.iload_n 2, 1) := by decide +kernel
theorem dX8_readRows_93 : decode cX8_readRows 93 = .ok (.isub, 1) := by decide +kernel
theorem dX8_readRows_94 : decode cX8_readRows 94 = .ok (.ireturn, 1) := by decide +kernel
theorem dX8_readRows_95 : decode cX8_readRows 95 = .ok (.iinc 2 1, 3) := by decide +kernel
theorem dX8_readRows_98 : decode cX8_readRows 98 = .ok (.goto (-94), 3) := by decide +kernel
theorem dX8_readRows_101 : decode cX8_readRows 101 = .ok (.iload_n 1, 1) := by decide +kernel
theorem dX8_readRows_102 : decode cX8_readRows 102 = .ok (.ifCond .le 7, 3) := by decide +kernel
theorem dX8_readRows_105 : decode cX8_readRows 105 = .ok (.iload_n 1, 1) := by decide +kernel
theorem dX8_readRows_106 : decode cX8_readRows 106 = .ok (.goto 10, 3) := by decide +kernel
theorem dX8_readRows_109 : decode cX8_readRows 109 = .ok (.bipush (-10), 2) := by decide +kernel
theorem dX8_readRows_111 : decode cX8_readRows 111 = .ok (.aload_n 0, 1) := by decide +kernel
theorem dX8_readRows_112 : decode cX8_readRows 112 = .ok (.getfield 18, 3) := by decide +kernel
theorem dX8_readRows_115 : decode cX8_readRows 115 = .ok (.isub, 1) := by decide +kernel
theorem dX8_readRows_116 : decode cX8_readRows 116 = .ok (.ireturn, 1) := by decide +kernel
