theorem dX6_init_0 : decode cX6_init 0 = .ok (.aload_n 0, 1) := by decide +kernel
theorem dX6_init_1 : decode cX6_init 1 = .ok (.invokespecial 3, 3) := by decide +kernel
theorem dX6_init_4 : decode cX6_init 4 = .ok (.aload_n 0, 1) := by decide +kernel
theorem dX6_init_5 : decode cX6_init 5 = .ok (.bipush 6, 2) := by decide +kernel
theorem dX6_init_7 : decode cX6_init 7 = .ok (.newarray .int, 2) := by decide +kernel
theorem dX6_init_9 : decode cX6_init 9 = .ok (.putfield 9, 3) := by decide +kernel
theorem dX6_init_12 : decode cX6_init 12 = .ok (.return_, 1) := by decide +kernel
theorem dX6_take_0 : decode cX6_take 0 = .ok (.aload_n 0, 1) := by decide +kernel
theorem dX6_take_1 : decode cX6_take 1 = .ok (.iload_n 2, 1) := by decide +kernel
theorem dX6_take_2 : decode cX6_take 2 = .ok (.bipush 6, 2) := by decide +kernel
theorem dX6_take_4 : decode cX6_take 4 = .ok (.invokestatic 15, 3) := by decide +kernel
theorem dX6_take_7 : decode cX6_take 7 = .ok (.putfield 21, 3) := by decide +kernel
theorem dX6_take_10 : decode cX6_take 10 = .ok (.aload_n 1, 1) := by decide +kernel
theorem dX6_take_11 : decode cX6_take 11 = .ok (.iconst 0, 1) := by decide +kernel
theorem dX6_take_12 : decode cX6_take 12 = .ok (.aload_n 0, 1) := by decide +kernel
theorem dX6_take_13 : decode cX6_take 13 = .ok (.getfield 9, 3) := by decide +kernel
theorem dX6_take_16 : decode cX6_take 16 = .ok (.iconst 0, 1) := by decide +kernel
theorem dX6_take_17 : decode cX6_take 17 = .ok (.aload_n 0, 1) := by decide +kernel
theorem dX6_take_18 : decode cX6_take 18 = .ok (.getfield 21, 3) := by decide +kernel
theorem dX6_take_21 : decode cX6_take 21 = .ok (.invokestatic 25, 3) := by decide +kernel
theorem dX6_take_24 : decode cX6_take 24 = .ok (.return_, 1) := by decide +kernel
theorem dX6_hold_0 : decode cX6_hold 0 = .ok (.iconst 0, 1) := by decide +kernel
theorem dX6_hold_1 : decode cX6_hold 1 = .ok (.istore_n 2, 1) := by decide +kernel
theorem dX6_hold_2 : decode cX6_hold 2 = .ok (.iload_n 2, 1) := by decide +kernel
theorem dX6_hold_3 : decode cX6_hold 3 = .ok (.aload_n 0, 1) := by decide +kernel
theorem dX6_hold_4 : decode cX6_hold 4 = .ok (.getfield 21, 3) := by decide +kernel
theorem dX6_hold_7 : decode cX6_hold 7 = .ok (.if_icmp .ge 24, 3) := by decide +kernel
theorem dX6_hold_10 : decode cX6_hold 10 = .ok (.aload_n 0, 1) := by decide +kernel
theorem dX6_hold_11 : decode cX6_hold 11 = .ok (.getfield 9, 3) := by decide +kernel
theorem dX6_hold_14 : decode cX6_hold 14 = .ok (.iload_n 2, 1) := by decide +kernel
theorem dX6_hold_15 : decode cX6_hold 15 = .ok (.iaload, 1) := by decide +kernel
theorem dX6_hold_16 : decode cX6_hold 16 = .ok (.aload_n 1, 1) := by decide +kernel
theorem dX6_hold_17 : decode cX6_hold 17 = .ok (.invokestatic 31, 3) := by decide +kernel
theorem dX6_hold_20 : decode cX6_hold 20 = .ok (.ifCond .ne 5, 3) := by decide +kernel
theorem dX6_hold_23 : decode cX6_hold 23 = .ok (.iconst 0, 1) := by decide +kernel
theorem dX6_hold_24 : decode cX6_hold 24 = .ok (.ireturn, 1) := by decide +kernel
theorem dX6_hold_25 : decode cX6_hold 25 = .ok (.iinc 2 1, 3) := by decide +kernel
theorem dX6_hold_28 : decode cX6_hold 28 = .ok (.goto (-26), 3) := by decide +kernel
theorem dX6_hold_31 : decode cX6_hold 31 = .ok (.iconst 1, 1) := by decide +kernel
theorem dX6_hold_32 : decode cX6_hold 32 = .ok (.ireturn, 1) := by decide +kernel
