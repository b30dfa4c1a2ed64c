theorem dX2_init_0 : decode cX2_init 0 = .ok (.aload_n 0, 1) := by decide +kernel
theorem dX2_init_1 : decode cX2_init 1 = .ok (.invokespecial 3, 3) := by decide +kernel
theorem dX2_init_4 : decode cX2_init 4 = .ok (.aload_n 0, 1) := by decide +kernel
theorem dX2_init_5 : decode cX2_init 5 = .ok (.iconst 0, 1) := by decide +kernel
theorem dX2_init_6 : decode cX2_init 6 = .ok (.newarray .int, 2) := by decide +kernel
theorem dX2_init_8 : decode cX2_init 8 = .ok (.putfield 9, 3) := by decide +kernel
theorem dX2_init_11 : decode cX2_init 11 = .ok (.aload_n 0, 1) := by decide +kernel
theorem dX2_init_12 : decode cX2_init 12 = .ok (.iconst 0, 1) := by decide +kernel
theorem dX2_init_13 : decode cX2_init 13 = .ok (.newarray .int, 2) := by decide +kernel
theorem dX2_init_15 : decode cX2_init 15 = .ok (.putfield 15, 3) := by decide +kernel
theorem dX2_init_18 : decode cX2_init 18 = .ok (.aload_n 0, 1) := by decide +kernel
theorem dX2_init_19 : decode cX2_init 19 = .ok (.bipush 121, 2) := by decide +kernel
theorem dX2_init_21 : decode cX2_init 21 = .ok (.newarray .int, 2) := by decide +kernel
theorem dX2_init_23 : decode cX2_init 23 = .ok (.putfield 18, 3) := by decide +kernel
theorem dX2_init_26 : decode cX2_init 26 = .ok (.aload_n 0, 1) := by decide +kernel
theorem dX2_init_27 : decode cX2_init 27 = .ok (.bipush 6, 2) := by decide +kernel
theorem dX2_init_29 : decode cX2_init 29 = .ok (.newarray .int, 2) := by decide +kernel
theorem dX2_init_31 : decode cX2_init 31 = .ok (.putfield 21, 3) := by decide +kernel
theorem dX2_init_34 : decode cX2_init 34 = .ok (.return_, 1) := by decide +kernel
theorem dX2_spread_0 : decode cX2_spread 0 = .ok (.aload_n 0, 1) := by decide +kernel
theorem dX2_spread_1 : decode cX2_spread 1 = .ok (.aload_n 1, 1) := by decide +kernel
theorem dX2_spread_2 : decode cX2_spread 2 = .ok (.putfield 9, 3) := by decide +kernel
theorem dX2_spread_5 : decode cX2_spread 5 = .ok (.aload_n 0, 1) := by decide +kernel
theorem dX2_spread_6 : decode cX2_spread 6 = .ok (.aload_n 2, 1) := by decide +kernel
theorem dX2_spread_7 : decode cX2_spread 7 = .ok (.putfield 15, 3) := by decide +kernel
theorem dX2_spread_10 : decode cX2_spread 10 = .ok (.aload_n 0, 1) := by decide +kernel
theorem dX2_spread_11 : decode cX2_spread 11 = .ok (.iload_n 3, 1) := by decide +kernel
theorem dX2_spread_12 : decode cX2_spread 12 = .ok (.putfield 24, 3) := by decide +kernel
theorem dX2_spread_15 : decode cX2_spread 15 = .ok (.aload_n 0, 1) := by decide +kernel
theorem dX2_spread_16 : decode cX2_spread 16 = .ok (.iload 4, 2) := by decide +kernel
theorem dX2_spread_18 : decode cX2_spread 18 = .ok (.putfield 28, 3) := by decide +kernel
theorem dX2_spread_21 : decode cX2_spread 21 = .ok (.iconst 0, 1) := by decide +kernel
theorem dX2_spread_22 : decode cX2_spread 22 = .ok (.istore 5, 2) := by decide +kernel
theorem dX2_spread_24 : decode cX2_spread 24 = .ok (.iload 5, 2) := by decide +kernel
theorem dX2_spread_26 : decode cX2_spread 26 = .ok (.aload_n 0, 1) := by decide +kernel
theorem dX2_spread_27 : decode cX2_spread 27 = .ok (.getfield 9, 3) := by decide +kernel
theorem dX2_spread_30 : decode cX2_spread 30 = .ok (.arraylength, 1) := by decide +kernel
theorem dX2_spread_31 : decode cX2_spread 31 = .ok (.if_icmp .ge 51, 3) := by decide +kernel
theorem dX2_spread_34 : decode cX2_spread 34 = .ok (.iload 5, 2) := by decide +kernel
theorem dX2_spread_36 : decode cX2_spread 36 = .ok (.bipush 120, 2) := by decide +kernel
theorem dX2_spread_38 : decode cX2_spread 38 = .ok (.if_icmp .ge 44, 3) := by decide +kernel
theorem dX2_spread_41 : decode cX2_spread 41 = .ok (.aload_n 0, 1) := by decide +kernel
theorem dX2_spread_42 : decode cX2_spread 42 = .ok (.getfield 18, 3) := by decide +kernel
theorem dX2_spread_45 : decode cX2_spread 45 = .ok (.iload 5, 2) := by decide +kernel
theorem dX2_spread_47 : decode cX2_spread 47 = .ok (.iconst 1, 1) := by decide +kernel
theorem dX2_spread_48 : decode cX2_spread 48 = .ok (.iadd, 1) := by decide +kernel
theorem dX2_spread_49 : decode cX2_spread 49 = .ok (.aload_n 0, 1) := by decide +kernel
theorem dX2_spread_50 : decode cX2_spread 50 = .ok (.getfield 18, 3) := by decide +kernel
theorem dX2_spread_53 : decode cX2_spread 53 = .ok (.iload 5, 2) := by decide +kernel
theorem dX2_spread_55 : decode cX2_spread 55 = .ok (.iaload, 1) := by decide +kernel
theorem dX2_spread_56 : decode cX2_spread 56 = .ok (.aload_n 0, 1) := by decide +kernel
theorem dX2_spread_57 : decode cX2_spread 57 = .ok (.getfield 9, 3) := by decide +kernel
theorem dX2_spread_60 : decode cX2_spread 60 = .ok (.iload 5, 2) := by decide +kernel
theorem dX2_spread_62 : decode cX2_spread 62 = .ok (.iaload, 1) := by decide +kernel
theorem dX2_spread_63 : decode cX2_spread 63 = .ok (.invokestatic 31, 3) := by decide +kernel
theorem dX2_spread_66 : decode cX2_spread 66 = .ok (.ifCond .eq 7, 3) := by decide +kernel
theorem dX2_spread_69 : decode cX2_spread 69 = .ok (.iconst 1, 1) := by decide +kernel
theorem dX2_spread_70 : decode cX2_spread 70 = .ok (.goto 4, 3) := by decide +kernel
theorem dX2_spread_73 : decode cX2_spread 73 = .ok (.iconst 0, 1) := by decide +kernel
theorem dX2_spread_74 : decode cX2_spread 74 = .ok (.iadd, 1) := by decide +kernel
theorem dX2_spread_75 : decode cX2_spread 75 = .ok (.iastore, 1) := by decide +kernel
theorem dX2_spread_76 : decode cX2_spread 76 = .ok (.iinc 5 1, 3) := by decide +kernel
theorem dX2_spread_79 : decode cX2_spread 79 = .ok (.goto (-55), 3) := by decide +kernel
theorem dX2_spread_82 : decode cX2_spread 82 = .ok (.return_, 1) := by decide +kernel
theorem dX2_isSpot_0 : decode cX2_isSpot 0 = .ok (.iload_n 0, 1) := by decide +kernel
theorem dX2_isSpot_1 : decode cX2_isSpot 1 = .ok (.bipush 16, 2) := by decide +kernel
theorem dX2_isSpot_3 : decode cX2_isSpot 3 = .ok (.iand, 1) := by decide +kernel
theorem dX2_isSpot_4 : decode cX2_isSpot 4 = .ok (.ifCond .ne 10, 3) := by decide +kernel
theorem dX2_isSpot_7 : decode cX2_isSpot 7 = .ok (.iload_n 0, 1) := by decide +kernel
theorem dX2_isSpot_8 : decode cX2_isSpot 8 = .ok (.iconst 5, 1) := by decide +kernel
theorem dX2_isSpot_9 : decode cX2_isSpot 9 = .ok (.ishr, 1) := by decide +kernel
theorem dX2_isSpot_10 : decode cX2_isSpot 10 = .ok (.iconst 3, 1) := by decide +kernel
theorem dX2_isSpot_11 : decode cX2_isSpot 11 = .ok (.if_icmp .lt 7, 3) := by decide +kernel
theorem dX2_isSpot_14 : decode cX2_isSpot 14 = .ok (.iconst 1, 1) := by decide +kernel
theorem dX2_isSpot_15 : decode cX2_isSpot 15 = .ok (.goto 4, 3) := by decide +kernel
theorem dX2_isSpot_18 : decode cX2_isSpot 18 = .ok (.iconst 0, 1) := by decide +kernel
theorem dX2_isSpot_19 : decode cX2_isSpot 19 = .ok (.ireturn, 1) := by decide +kernel
theorem dX2_lay_0 : decode cX2_lay 0 = .ok (.aload_n 0, 1) := by decide +kernel
theorem dX2_lay_1 : decode cX2_lay 1 = .ok (.iload_n 2, 1) := by decide +kernel
theorem dX2_lay_2 : decode cX2_lay 2 = .ok (.putfield 35, 3) := by decide +kernel
theorem dX2_lay_5 : decode cX2_lay 5 = .ok (.iconst 0, 1) := by decide +kernel
theorem dX2_lay_6 : decode cX2_lay 6 = .ok (.istore_n 3, 1) := by decide +kernel
theorem dX2_lay_7 : decode cX2_lay 7 = .ok (.iconst 0, 1) := by decide +kernel
theorem dX2_lay_8 : decode cX2_lay 8 = .ok (.istore 4, 2) := by decide +kernel
theorem dX2_lay_10 : decode cX2_lay 10 = .ok (.iload 4, 2) := by decide +kernel
theorem dX2_lay_12 : decode cX2_lay 12 = .ok (.bipush 6, 2) := by decide +kernel
theorem dX2_lay_14 : decode cX2_lay 14 = .ok (.if_icmp .ge 40, 3) := by decide +kernel
theorem dX2_lay_17 : decode cX2_lay 17 = .ok (.iload_n 1, 1) := by decide +kernel
theorem dX2_lay_18 : decode cX2_lay 18 = .ok (.getstatic 38, 3) := by decide +kernel
theorem dX2_lay_21 : decode cX2_lay 21 = .ok (.iload 4, 2) := by decide +kernel
theorem dX2_lay_23 : decode cX2_lay 23 = .ok (.iaload, 1) := by decide +kernel
theorem dX2_lay_24 : decode cX2_lay 24 = .ok (.idiv, 1) := by decide +kernel
theorem dX2_lay_25 : decode cX2_lay 25 = .ok (.bipush 6, 2) := by decide +kernel
theorem dX2_lay_27 : decode cX2_lay 27 = .ok (.irem, 1) := by decide +kernel
theorem dX2_lay_28 : decode cX2_lay 28 = .ok (.istore 5, 2) := by decide +kernel
theorem dX2_lay_30 : decode cX2_lay 30 = .ok (.aload_n 0, 1) := by decide +kernel
theorem dX2_lay_31 : decode cX2_lay 31 = .ok (.getfield 21, 3) := by decide +kernel
theorem dX2_lay_34 : decode cX2_lay 34 = .ok (.iload 5, 2) := by decide +kernel
theorem dX2_lay_36 : decode cX2_lay 36 = .ok (.iload_n 3, 1) := by decide +kernel
theorem dX2_lay_37 : decode cX2_lay 37 = .ok (.iastore, 1) := by decide +kernel
theorem dX2_lay_38 : decode cX2_lay 38 = .ok (.iload_n 3, 1) := by decide +kernel
theorem dX2_lay_39 : decode cX2_lay 39 = .ok (.aload_n 0, 1) := by decide +kernel
theorem dX2_lay_40 : decode cX2_lay 40 = .ok (.getfield 15, 3) := by decide +kernel
theorem dX2_lay_43 : decode cX2_lay 43 = .ok (.iload 5, 2) := by decide +kernel
theorem dX2_lay_45 : decode cX2_lay 45 = .ok (.iaload, 1) := by decide +kernel
theorem dX2_lay_46 : decode cX2_lay 46 = .ok (.iadd, 1) := by decide +kernel
theorem dX2_lay_47 : decode cX2_lay 47 = .ok (.istore_n 3, 1) := by decide +kernel
theorem dX2_lay_48 : decode cX2_lay 48 = .ok (.iinc 4 1, 3) := by decide +kernel
theorem dX2_lay_51 : decode cX2_lay 51 = .ok (.goto (-41), 3) := by decide +kernel
theorem dX2_lay_54 : decode cX2_lay 54 = .ok (.return_, 1) := by decide +kernel
theorem dX2_turnOf_0 : decode cX2_turnOf 0 = .ok (.aload_n 0, 1) := by decide +kernel
theorem dX2_turnOf_1 : decode cX2_turnOf 1 = .ok (.getfield 35, 3) := by decide +kernel
theorem dX2_turnOf_4 : decode cX2_turnOf 4 = .ok (.iload_n 1, 1) := by decide +kernel
theorem dX2_turnOf_5 : decode cX2_turnOf 5 = .ok (.ishr, 1) := by decide +kernel
theorem dX2_turnOf_6 : decode cX2_turnOf 6 = .ok (.iconst 1, 1) := by decide +kernel
theorem dX2_turnOf_7 : decode cX2_turnOf 7 = .ok (.iand, 1) := by decide +kernel
theorem dX2_turnOf_8 : decode cX2_turnOf 8 = .ok (.ireturn, 1) := by decide +kernel
theorem dX2_placeOf_0 : decode cX2_placeOf 0 = .ok (.aload_n 0, 1) := by decide +kernel
theorem dX2_placeOf_1 : decode cX2_placeOf 1 = .ok (.getfield 21, 3) := by decide +kernel
theorem dX2_placeOf_4 : decode cX2_placeOf 4 = .ok (.iload_n 1, 1) := by decide +kernel
theorem dX2_placeOf_5 : decode cX2_placeOf 5 = .ok (.iaload, 1) := by decide +kernel
theorem dX2_placeOf_6 : decode cX2_placeOf 6 = .ok (.aload_n 0, 1) := by decide +kernel
theorem dX2_placeOf_7 : decode cX2_placeOf 7 = .ok (.iload_n 1, 1) := by decide +kernel
theorem dX2_placeOf_8 : decode cX2_placeOf 8 = .ok (.invokevirtual 41, 3) := by decide +kernel
theorem dX2_placeOf_11 : decode cX2_placeOf 11 = .ok (.ifCond .ne 7, 3) := by decide +kernel
theorem dX2_placeOf_14 : decode cX2_placeOf 14 = .ok (.iload_n 2, 1) := by decide +kernel
theorem dX2_placeOf_15 : decode cX2_placeOf 15 = .ok (.goto 13, 3) := by decide +kernel
theorem dX2_placeOf_18 : decode cX2_placeOf 18 = .ok (.aload_n 0, 1) := by decide +kernel
theorem dX2_placeOf_19 : decode cX2_placeOf 19 = .ok (.getfield 15, 3) := by decide +kernel
theorem dX2_placeOf_22 : decode cX2_placeOf 22 = .ok (.iload_n 1, 1) := by decide +kernel
theorem dX2_placeOf_23 : decode cX2_placeOf 23 = .ok (.iaload, 1) := by decide +kernel
theorem dX2_placeOf_24 : decode cX2_placeOf 24 = .ok (.iconst 1, 1) := by decide +kernel
theorem dX2_placeOf_25 : decode cX2_placeOf 25 = .ok (.isub, 1) := by decide +kernel
theorem dX2_placeOf_26 : decode cX2_placeOf 26 = .ok (.iload_n 2, 1) := by decide +kernel
theorem dX2_placeOf_27 : decode cX2_placeOf 27 = .ok (.isub, 1) := by decide +kernel
theorem dX2_placeOf_28 : decode cX2_placeOf 28 = .ok (.iadd, 1) := by decide +kernel
theorem dX2_placeOf_29 : decode cX2_placeOf 29 = .ok (.ireturn, 1) := by decide +kernel
theorem dX2_cutRows_0 : decode cX2_cutRows 0 = .ok (.aload_n 0, 1) := by decide +kernel
theorem dX2_cutRows_1 : decode cX2_cutRows 1 = .ok (.getfield 9, 3) := by decide +kernel
theorem dX2_cutRows_4 : decode cX2_cutRows 4 = .ok (.arraylength, 1) := by decide +kernel
theorem dX2_cutRows_5 : decode cX2_cutRows 5 = .ok (.newarray .int, 2) := by decide +kernel
theorem dX2_cutRows_7 : decode cX2_cutRows 7 = .ok (.astore_n 1, 1) := by decide +kernel
theorem dX2_cutRows_8 : decode cX2_cutRows 8 = .ok (.iconst 0, 1) := by decide +kernel
theorem dX2_cutRows_9 : decode cX2_cutRows 9 = .ok (.istore_n 2, 1) := by decide +kernel
theorem dX2_cutRows_10 : decode cX2_cutRows 10 = .ok (.iconst 0, 1) := by decide +kernel
theorem dX2_cutRows_11 : decode cX2_cutRows 11 = .ok (.istore_n 3, 1) := by decide +kernel
theorem dX2_cutRows_12 : decode cX2_cutRows 12 = .ok (.iload_n 3, 1) := by decide +kernel
theorem dX2_cutRows_13 : decode cX2_cutRows 13 = .ok (.bipush 6, 2) := by decide +kernel
theorem dX2_cutRows_15 : decode cX2_cutRows 15 = .ok (.if_icmp .ge 47, 3) := by decide +kernel
theorem dX2_cutRows_18 : decode cX2_cutRows 18 = .ok (.iconst 0, 1) := by decide +kernel
theorem dX2_cutRows_19 : decode cX2_cutRows 19 = .ok (.istore 4, 2) := by decide +kernel
theorem dX2_cutRows_21 : decode cX2_cutRows 21 = .ok (.iload 4, 2) := by decide +kernel
theorem dX2_cutRows_23 : decode cX2_cutRows 23 = .ok (.aload_n 0, 1) := by decide +kernel
theorem dX2_cutRows_24 : decode cX2_cutRows 24 = .ok (.getfield 15, 3) := by decide +kernel
theorem dX2_cutRows_27 : decode cX2_cutRows 27 = .ok (.iload_n 3, 1) := by decide +kernel
theorem dX2_cutRows_28 : decode cX2_cutRows 28 = .ok (.iaload, 1) := by decide +kernel
theorem dX2_cutRows_29 : decode cX2_cutRows 29 = .ok (.if_icmp .ge 27, 3) := by decide +kernel
theorem dX2_cutRows_32 : decode cX2_cutRows 32 = .ok (.aload_n 1, 1) := by decide +kernel
theorem dX2_cutRows_33 : decode cX2_cutRows 33 = .ok (.iload_n 2, 1) := by decide +kernel
theorem dX2_cutRows_34 : decode cX2_cutRows 34 = .ok (.aload_n 0, 1) := by decide +kernel
theorem dX2_cutRows_35 : decode cX2_cutRows 35 = .ok (.getfield 9, 3) := by decide +kernel
theorem dX2_cutRows_38 : decode cX2_cutRows 38 = .ok (.aload_n 0, 1) := by decide +kernel
theorem dX2_cutRows_39 : decode cX2_cutRows 39 = .ok (.iload_n 3, 1) := by decide +kernel
theorem dX2_cutRows_40 : decode cX2_cutRows 40 = .ok (.iload 4, 2) := by decide +kernel
theorem dX2_cutRows_42 : decode cX2_cutRows 42 = .ok (.invokevirtual 45, 3) := by decide +kernel
theorem dX2_cutRows_45 : decode cX2_cutRows 45 = .ok (.iaload, 1) := by decide +kernel
theorem dX2_cutRows_46 : decode cX2_cutRows 46 = .ok (.iastore, 1) := by decide +kernel
theorem dX2_cutRows_47 : decode cX2_cutRows 47 = .ok (.iinc 2 1, 3) := by decide +kernel
theorem dX2_cutRows_50 : decode cX2_cutRows 50 = .ok (.iinc 4 1, 3) := by decide +kernel
theorem dX2_cutRows_53 : decode cX2_cutRows 53 = .ok (.goto (-32), 3) := by decide +kernel
theorem dX2_cutRows_56 : decode cX2_cutRows 56 = .ok (.iinc 3 1, 3) := by decide +kernel
theorem dX2_cutRows_59 : decode cX2_cutRows 59 = .ok (.goto (-47), 3) := by decide +kernel
theorem dX2_cutRows_62 : decode cX2_cutRows 62 = .ok (.aload_n 1, 1) := by decide +kernel
theorem dX2_cutRows_63 : decode cX2_cutRows 63 = .ok (.areturn, 1) := by decide +kernel
theorem dX2_joinRows_0 : decode cX2_joinRows 0 = .ok (.aload_n 0, 1) := by decide +kernel
theorem dX2_joinRows_1 : decode cX2_joinRows 1 = .ok (.getfield 9, 3) := by decide +kernel
theorem dX2_joinRows_4 : decode cX2_joinRows 4 = .ok (.arraylength, 1) := by decide +kernel
theorem dX2_joinRows_5 : decode cX2_joinRows 5 = .ok (.newarray .int, 2) := by decide +kernel
theorem dX2_joinRows_7 : decode cX2_joinRows 7 = .ok (.astore_n 1, 1) := by decide +kernel
theorem dX2_joinRows_8 : decode cX2_joinRows 8 = .ok (.iconst 0, 1) := by decide +kernel
theorem dX2_joinRows_9 : decode cX2_joinRows 9 = .ok (.istore_n 2, 1) := by decide +kernel
theorem dX2_joinRows_10 : decode cX2_joinRows 10 = .ok (.iconst 0, 1) := by decide +kernel
theorem dX2_joinRows_11 : decode cX2_joinRows 11 = .ok (.istore_n 3, 1) := by decide +kernel
theorem dX2_joinRows_12 : decode cX2_joinRows 12 = .ok (.iload_n 3, 1) := by decide +kernel
theorem dX2_joinRows_13 : decode cX2_joinRows 13 = .ok (.bipush 6, 2) := by decide +kernel
theorem dX2_joinRows_15 : decode cX2_joinRows 15 = .ok (.if_icmp .ge 47, 3) := by decide +kernel
theorem dX2_joinRows_18 : decode cX2_joinRows 18 = .ok (.iconst 0, 1) := by decide +kernel
theorem dX2_joinRows_19 : decode cX2_joinRows 19 = .ok (.istore 4, 2) := by decide +kernel
theorem dX2_joinRows_21 : decode cX2_joinRows 21 = .ok (.iload 4, 2) := by decide +kernel
theorem dX2_joinRows_23 : decode cX2_joinRows 23 = .ok (.aload_n 0, 1) := by decide +kernel
theorem dX2_joinRows_24 : decode cX2_joinRows 24 = .ok (.getfield 15, 3) := by decide +kernel
theorem dX2_joinRows_27 : decode cX2_joinRows 27 = .ok (.iload_n 3, 1) := by decide +kernel
theorem dX2_joinRows_28 : decode cX2_joinRows 28 = .ok (.iaload, 1) := by decide +kernel
theorem dX2_joinRows_29 : decode cX2_joinRows 29 = .ok (.if_icmp .ge 27, 3) := by decide +kernel
theorem dX2_joinRows_32 : decode cX2_joinRows 32 = .ok (.aload_n 1, 1) := by decide +kernel
theorem dX2_joinRows_33 : decode cX2_joinRows 33 = .ok (.aload_n 0, 1) := by decide +kernel
theorem dX2_joinRows_34 : decode cX2_joinRows 34 = .ok (.iload_n 3, 1) := by decide +kernel
theorem dX2_joinRows_35 : decode cX2_joinRows 35 = .ok (.iload 4, 2) := by decide +kernel
theorem dX2_joinRows_37 : decode cX2_joinRows 37 = .ok (.invokevirtual 45, 3) := by decide +kernel
theorem dX2_joinRows_40 : decode cX2_joinRows 40 = .ok (.aload_n 0, 1) := by decide +kernel
theorem dX2_joinRows_41 : decode cX2_joinRows 41 = .ok (.getfield 9, 3) := by decide +kernel
theorem dX2_joinRows_44 : decode cX2_joinRows 44 = .ok (.iload_n 2, 1) := by decide +kernel
theorem dX2_joinRows_45 : decode cX2_joinRows 45 = .ok (.iaload, 1) := by decide +kernel
theorem dX2_joinRows_46 : decode cX2_joinRows 46 = .ok (.iastore, 1) := by decide +kernel
theorem dX2_joinRows_47 : decode cX2_joinRows 47 = .ok (.iinc 2 1, 3) := by decide +kernel
theorem dX2_joinRows_50 : decode cX2_joinRows 50 = .ok (.iinc 4 1, 3) := by decide +kernel
theorem dX2_joinRows_53 : decode cX2_joinRows 53 = .ok (.goto (-32), 3) := by decide +kernel
theorem dX2_joinRows_56 : decode cX2_joinRows 56 = .ok (.iinc 3 1, 3) := by decide +kernel
theorem dX2_joinRows_59 : decode cX2_joinRows 59 = .ok (.goto (-47), 3) := by decide +kernel
theorem dX2_joinRows_62 : decode cX2_joinRows 62 = .ok (.aload_n 1, 1) := by decide +kernel
theorem dX2_joinRows_63 : decode cX2_joinRows 63 = .ok (.areturn, 1) := by decide +kernel
theorem dX2_uglySum_0 : decode cX2_uglySum 0 = .ok (.iconst 5, 1) := by decide +kernel
theorem dX2_uglySum_1 : decode cX2_uglySum 1 = .ok (.aload_n 0, 1) := by decide +kernel
theorem dX2_uglySum_2 : decode cX2_uglySum 2 = .ok (.invokevirtual 49, 3) := by decide +kernel
theorem dX2_uglySum_5 : decode cX2_uglySum 5 = .ok (.imul, 1) := by decide +kernel
theorem dX2_uglySum_6 : decode cX2_uglySum 6 = .ok (.istore_n 1, 1) := by decide +kernel
theorem dX2_uglySum_7 : decode cX2_uglySum 7 = .ok (.iconst 0, 1) := by decide +kernel
theorem dX2_uglySum_8 : decode cX2_uglySum 8 = .ok (.istore_n 2, 1) := by decide +kernel
theorem dX2_uglySum_9 : decode cX2_uglySum 9 = .ok (.iload_n 2, 1) := by decide +kernel
theorem dX2_uglySum_10 : decode cX2_uglySum 10 = .ok (.iconst 5, 1) := by decide +kernel
theorem dX2_uglySum_11 : decode cX2_uglySum 11 = .ok (.if_icmp .ge 17, 3) := by decide +kernel
theorem dX2_uglySum_14 : decode cX2_uglySum 14 = .ok (.iload_n 1, 1) := by decide +kernel
theorem dX2_uglySum_15 : decode cX2_uglySum 15 = .ok (.aload_n 0, 1) := by decide +kernel
theorem dX2_uglySum_16 : decode cX2_uglySum 16 = .ok (.iload_n 2, 1) := by decide +kernel
theorem dX2_uglySum_17 : decode cX2_uglySum 17 = .ok (.invokevirtual 53, 3) := by decide +kernel
theorem dX2_uglySum_20 : decode cX2_uglySum 20 = .ok (.iadd, 1) := by decide +kernel
theorem dX2_uglySum_21 : decode cX2_uglySum 21 = .ok (.istore_n 1, 1) := by decide +kernel
theorem dX2_uglySum_22 : decode cX2_uglySum 22 = .ok (.iinc 2 1, 3) := by decide +kernel
theorem dX2_uglySum_25 : decode cX2_uglySum 25 = .ok (.goto (-16), 3) := by decide +kernel
theorem dX2_uglySum_28 : decode cX2_uglySum 28 = .ok (.iload_n 1, 1) := by decide +kernel
theorem dX2_uglySum_29 : decode cX2_uglySum 29 = .ok (.ireturn, 1) := by decide +kernel
theorem dX2_shownSum_0 : decode cX2_shownSum 0 = .ok (.iconst 0, 1) := by decide +kernel
theorem dX2_shownSum_1 : decode cX2_shownSum 1 = .ok (.istore_n 1, 1) := by decide +kernel
theorem dX2_shownSum_2 : decode cX2_shownSum 2 = .ok (.iconst 0, 1) := by decide +kernel
theorem dX2_shownSum_3 : decode cX2_shownSum 3 = .ok (.istore_n 2, 1) := by decide +kernel
theorem dX2_shownSum_4 : decode cX2_shownSum 4 = .ok (.iload_n 2, 1) := by decide +kernel
theorem dX2_shownSum_5 : decode cX2_shownSum 5 = .ok (.bipush 6, 2) := by decide +kernel
theorem dX2_shownSum_7 : decode cX2_shownSum 7 = .ok (.if_icmp .ge 17, 3) := by decide +kernel
theorem dX2_shownSum_10 : decode cX2_shownSum 10 = .ok (.iload_n 1, 1) := by decide +kernel
theorem dX2_shownSum_11 : decode cX2_shownSum 11 = .ok (.aload_n 0, 1) := by decide +kernel
theorem dX2_shownSum_12 : decode cX2_shownSum 12 = .ok (.iload_n 2, 1) := by decide +kernel
theorem dX2_shownSum_13 : decode cX2_shownSum 13 = .ok (.invokevirtual 56, 3) := by decide +kernel
theorem dX2_shownSum_16 : decode cX2_shownSum 16 = .ok (.iadd, 1) := by decide +kernel
theorem dX2_shownSum_17 : decode cX2_shownSum 17 = .ok (.istore_n 1, 1) := by decide +kernel
theorem dX2_shownSum_18 : decode cX2_shownSum 18 = .ok (.iinc 2 1, 3) := by decide +kernel
theorem dX2_shownSum_21 : decode cX2_shownSum 21 = .ok (.goto (-17), 3) := by decide +kernel
theorem dX2_shownSum_24 : decode cX2_shownSum 24 = .ok (.iload_n 1, 1) := by decide +kernel
theorem dX2_shownSum_25 : decode cX2_shownSum 25 = .ok (.ireturn, 1) := by decide +kernel
theorem dX2_shownOf_0 : decode cX2_shownOf 0 = .ok (.aload_n 0, 1) := by decide +kernel
theorem dX2_shownOf_1 : decode cX2_shownOf 1 = .ok (.getfield 21, 3) := by decide +kernel
theorem dX2_shownOf_4 : decode cX2_shownOf 4 = .ok (.iload_n 1, 1) := by decide +kernel
theorem dX2_shownOf_5 : decode cX2_shownOf 5 = .ok (.iaload, 1) := by decide +kernel
theorem dX2_shownOf_6 : decode cX2_shownOf 6 = .ok (.aload_n 0, 1) := by decide +kernel
theorem dX2_shownOf_7 : decode cX2_shownOf 7 = .ok (.getfield 28, 3) := by decide +kernel
theorem dX2_shownOf_10 : decode cX2_shownOf 10 = .ok (.iadd, 1) := by decide +kernel
theorem dX2_shownOf_11 : decode cX2_shownOf 11 = .ok (.istore_n 2, 1) := by decide +kernel
theorem dX2_shownOf_12 : decode cX2_shownOf 12 = .ok (.aload_n 0, 1) := by decide +kernel
theorem dX2_shownOf_13 : decode cX2_shownOf 13 = .ok (.getfield 21, 3) := by decide +kernel
theorem dX2_shownOf_16 : decode cX2_shownOf 16 = .ok (.iload_n 1, 1) := by decide +kernel
theorem dX2_shownOf_17 : decode cX2_shownOf 17 = .ok (.iaload, 1) := by decide +kernel
theorem dX2_shownOf_18 : decode cX2_shownOf 18 = .ok (.aload_n 0, 1) := by decide +kernel
theorem dX2_shownOf_19 : decode cX2_shownOf 19 = .ok (.getfield 15, 3) := by decide +kernel
theorem dX2_shownOf_22 : decode cX2_shownOf 22 = .ok (.iload_n 1, 1) := by decide +kernel
theorem dX2_shownOf_23 : decode cX2_shownOf 23 = .ok (.iaload, 1) := by decide +kernel
theorem dX2_shownOf_24 : decode cX2_shownOf 24 = .ok (.iadd, 1) := by decide +kernel
theorem dX2_shownOf_25 : decode cX2_shownOf 25 = .ok (.aload_n 0, 1) := by decide +kernel
theorem dX2_shownOf_26 : decode cX2_shownOf 26 = .ok (.getfield 28, 3) := by decide +kernel
theorem dX2_shownOf_29 : decode cX2_shownOf 29 = .ok (.isub, 1) := by decide +kernel
theorem dX2_shownOf_30 : decode cX2_shownOf 30 = .ok (.istore_n 3, 1) := by decide +kernel
theorem dX2_shownOf_31 : decode cX2_shownOf 31 = .ok (.iload_n 2, 1) := by decide +kernel
theorem dX2_shownOf_32 : decode cX2_shownOf 32 = .ok (.iload_n 3, 1) := by decide +kernel
theorem dX2_shownOf_33 : decode cX2_shownOf 33 = .ok (.if_icmp .ge 19, 3) := by decide +kernel
theorem dX2_shownOf_36 : decode cX2_shownOf 36 = .ok (.aload_n 0, 1) := by decide +kernel
theorem dX2_shownOf_37 : decode cX2_shownOf 37 = .ok (.getfield 18, 3) := by decide +kernel
theorem dX2_shownOf_40 : decode cX2_shownOf 40 = .ok (.iload_n 3, 1) := by decide +kernel
theorem dX2_shownOf_41 : decode cX2_shownOf 41 = .ok (.iaload, 1) := by decide +kernel
theorem dX2_shownOf_42 : decode cX2_shownOf 42 = .ok (.aload_n 0, 1) := by decide +kernel
theorem dX2_shownOf_43 : decode cX2_shownOf 43 = .ok (.getfield 18, 3) := by decide +kernel
theorem dX2_shownOf_46 : decode cX2_shownOf 46 = .ok (.iload_n 2, 1) := by decide +kernel
theorem dX2_shownOf_47 : decode cX2_shownOf 47 = .ok (.iaload, 1) := by decide +kernel
theorem dX2_shownOf_48 : decode cX2_shownOf 48 = .ok (.isub, 1) := by decide +kernel
theorem dX2_shownOf_49 : decode cX2_shownOf 49 = .ok (.goto 4, 3) := by decide +kernel
theorem dX2_shownOf_52 : decode cX2_shownOf 52 = .ok (.iconst 0, 1) := by decide +kernel
theorem dX2_shownOf_53 : decode cX2_shownOf 53 = .ok (.ireturn, 1) := by decide +kernel
theorem dX2_missOf_0 : decode cX2_missOf 0 = .ok (.aload_n 0, 1) := by decide +kernel
theorem dX2_missOf_1 : decode cX2_missOf 1 = .ok (.iload_n 1, 1) := by decide +kernel
theorem dX2_missOf_2 : decode cX2_missOf 2 = .ok (.aload_n 0, 1) := by decide +kernel
theorem dX2_missOf_3 : decode cX2_missOf 3 = .ok (.iload_n 1, 1) := by decide +kernel
theorem dX2_missOf_4 : decode cX2_missOf 4 = .ok (.iconst 1, 1) := by decide +kernel
theorem dX2_missOf_5 : decode cX2_missOf 5 = .ok (.iadd, 1) := by decide +kernel
theorem dX2_missOf_6 : decode cX2_missOf 6 = .ok (.invokevirtual 41, 3) := by decide +kernel
theorem dX2_missOf_9 : decode cX2_missOf 9 = .ok (.aload_n 0, 1) := by decide +kernel
theorem dX2_missOf_10 : decode cX2_missOf 10 = .ok (.getstatic 59, 3) := by decide +kernel
theorem dX2_missOf_13 : decode cX2_missOf 13 = .ok (.iload_n 1, 1) := by decide +kernel
theorem dX2_missOf_14 : decode cX2_missOf 14 = .ok (.iaload, 1) := by decide +kernel
theorem dX2_missOf_15 : decode cX2_missOf 15 = .ok (.invokevirtual 41, 3) := by decide +kernel
theorem dX2_missOf_18 : decode cX2_missOf 18 = .ok (.invokevirtual 62, 3) := by decide +kernel
theorem dX2_missOf_21 : decode cX2_missOf 21 = .ok (.ireturn, 1) := by decide +kernel
theorem dX2_missTurned_0 : decode cX2_missTurned 0 = .ok (.iload_n 1, 1) := by decide +kernel
theorem dX2_missTurned_1 : decode cX2_missTurned 1 = .ok (.iconst 1, 1) := by decide +kernel
theorem dX2_missTurned_2 : decode cX2_missTurned 2 = .ok (.iadd, 1) := by decide +kernel
theorem dX2_missTurned_3 : decode cX2_missTurned 3 = .ok (.istore 4, 2) := by decide +kernel
theorem dX2_missTurned_5 : decode cX2_missTurned 5 = .ok (.getstatic 59, 3) := by decide +kernel
theorem dX2_missTurned_8 : decode cX2_missTurned 8 = .ok (.iload_n 1, 1) := by decide +kernel
theorem dX2_missTurned_9 : decode cX2_missTurned 9 = .ok (.iaload, 1) := by decide +kernel
theorem dX2_missTurned_10 : decode cX2_missTurned 10 = .ok (.istore 5, 2) := by decide +kernel
theorem dX2_missTurned_12 : decode cX2_missTurned 12 = .ok (.iload_n 2, 1) := by decide +kernel
theorem dX2_missTurned_13 : decode cX2_missTurned 13 = .ok (.iconst 1, 1) := by decide +kernel
theorem dX2_missTurned_14 : decode cX2_missTurned 14 = .ok (.if_icmp .ne 7, 3) := by decide +kernel
theorem dX2_missTurned_17 : decode cX2_missTurned 17 = .ok (.iconst 1, 1) := by decide +kernel
theorem dX2_missTurned_18 : decode cX2_missTurned 18 = .ok (.goto 4, 3) := by decide +kernel
theorem dX2_missTurned_21 : decode cX2_missTurned 21 = .ok (.iconst 0, 1) := by decide +kernel
theorem dX2_missTurned_22 : decode cX2_missTurned 22 = .ok (.istore 6, 2) := by decide +kernel
theorem dX2_missTurned_24 : decode cX2_missTurned 24 = .ok (.iload_n 3, 1) := by decide +kernel
theorem dX2_missTurned_25 : decode cX2_missTurned 25 = .ok (.iconst 1, 1) := by decide +kernel
theorem dX2_missTurned_26 : decode cX2_missTurned 26 = .ok (.if_icmp .ne 7, 3) := by decide +kernel
theorem dX2_missTurned_29 : decode cX2_missTurned 29 = .ok (.iconst 1, 1) := by decide +kernel
theorem dX2_missTurned_30 : decode cX2_missTurned 30 = .ok (.goto 4, 3) := by decide +kernel
theorem dX2_missTurned_33 : decode cX2_missTurned 33 = .ok (.iconst 0, 1) := by decide +kernel
theorem dX2_missTurned_34 : decode cX2_missTurned 34 = .ok (.iload_n 1, 1) := by decide +kernel
theorem dX2_missTurned_35 : decode cX2_missTurned 35 = .ok (.iconst 3, 1) := by decide +kernel
theorem dX2_missTurned_36 : decode cX2_missTurned 36 = .ok (.if_icmp .ne 7, 3) := by decide +kernel
theorem dX2_missTurned_39 : decode cX2_missTurned 39 = .ok (.iconst 1, 1) := by decide +kernel
theorem dX2_missTurned_40 : decode cX2_missTurned 40 = .ok (.goto 4, 3) := by decide +kernel
theorem dX2_missTurned_43 : decode cX2_missTurned 43 = .ok (.iconst 0, 1) := by decide +kernel
theorem dX2_missTurned_44 : decode cX2_missTurned 44 = .ok (.if_icmp .eq 7, 3) := by decide +kernel
theorem dX2_missTurned_47 : decode cX2_missTurned 47 = .ok (.iconst 1, 1) := by decide +kernel
theorem dX2_missTurned_48 : decode cX2_missTurned 48 = .ok (.goto 4, 3) := by decide +kernel
theorem dX2_missTurned_51 : decode cX2_missTurned 51 = .ok (.iconst 0, 1) := by decide +kernel
theorem dX2_missTurned_52 : decode cX2_missTurned 52 = .ok (.istore 7, 2) := by decide +kernel
theorem dX2_missTurned_54 : decode cX2_missTurned 54 = .ok (.aload_n 0, 1) := by decide +kernel
theorem dX2_missTurned_55 : decode cX2_missTurned 55 = .ok (.getfield 21, 3) := by decide +kernel
theorem dX2_missTurned_58 : decode cX2_missTurned 58 = .ok (.iload 4, 2) := by decide +kernel
theorem dX2_missTurned_60 : decode cX2_missTurned 60 = .ok (.iaload, 1) := by decide +kernel
theorem dX2_missTurned_61 : decode cX2_missTurned 61 = .ok (.iload 6, 2) := by decide +kernel
theorem dX2_missTurned_63 : decode cX2_missTurned 63 = .ok (.ifCond .eq 15, 3) := by decide +kernel
theorem dX2_missTurned_66 : decode cX2_missTurned 66 = .ok (.aload_n 0, 1) := by decide +kernel
theorem dX2_missTurned_67 : decode cX2_missTurned 67 = .ok (.getfield 15, 3) := by decide +kernel
theorem dX2_missTurned_70 : decode cX2_missTurned 70 = .ok (.iload 4, 2) := by decide +kernel
theorem dX2_missTurned_72 : decode cX2_missTurned 72 = .ok (.iaload, 1) := by decide +kernel
theorem dX2_missTurned_73 : decode cX2_missTurned 73 = .ok (.iconst 1, 1) := by decide +kernel
theorem dX2_missTurned_74 : decode cX2_missTurned 74 = .ok (.isub, 1) := by decide +kernel
theorem dX2_missTurned_75 : decode cX2_missTurned 75 = .ok (.goto 4, 3) := by decide +kernel
theorem dX2_missTurned_78 : decode cX2_missTurned 78 = .ok (.iconst 0, 1) := by decide +kernel
theorem dX2_missTurned_79 : decode cX2_missTurned 79 = .ok (.iadd, 1) := by decide +kernel
theorem dX2_missTurned_80 : decode cX2_missTurned 80 = .ok (.istore 8, 2) := by decide +kernel
theorem dX2_missTurned_82 : decode cX2_missTurned 82 = .ok (.aload_n 0, 1) := by decide +kernel
theorem dX2_missTurned_83 : decode cX2_missTurned 83 = .ok (.getfield 21, 3) := by decide +kernel
theorem dX2_missTurned_86 : decode cX2_missTurned 86 = .ok (.iload 5, 2) := by decide +kernel
theorem dX2_missTurned_88 : decode cX2_missTurned 88 = .ok (.iaload, 1) := by decide +kernel
theorem dX2_missTurned_89 : decode cX2_missTurned 89 = .ok (.iload 7, 2) := by decide +kernel
theorem dX2_missTurned_91 : decode cX2_missTurned 91 = .ok (.ifCond .eq 15, 3) := by decide +kernel
theorem dX2_missTurned_94 : decode cX2_missTurned 94 = .ok (.aload_n 0, 1) := by decide +kernel
theorem dX2_missTurned_95 : decode cX2_missTurned 95 = .ok (.getfield 15, 3) := by decide +kernel
theorem dX2_missTurned_98 : decode cX2_missTurned 98 = .ok (.iload 5, 2) := by decide +kernel
theorem dX2_missTurned_100 : decode cX2_missTurned 100 = .ok (.iaload, 1) := by decide +kernel
theorem dX2_missTurned_101 : decode cX2_missTurned 101 = .ok (.iconst 1, 1) := by decide +kernel
theorem dX2_missTurned_102 : decode cX2_missTurned 102 = .ok (.isub, 1) := by decide +kernel
theorem dX2_missTurned_103 : decode cX2_missTurned 103 = .ok (.goto 4, 3) := by decide +kernel
theorem dX2_missTurned_106 : decode cX2_missTurned 106 = .ok (.iconst 0, 1) := by decide +kernel
theorem dX2_missTurned_107 : decode cX2_missTurned 107 = .ok (.iadd, 1) := by decide +kernel
theorem dX2_missTurned_108 : decode cX2_missTurned 108 = .ok (.istore 9, 2) := by decide +kernel
theorem dX2_missTurned_110 : decode cX2_missTurned 110 = .ok (.iload 6, 2) := by decide +kernel
theorem dX2_missTurned_112 : decode cX2_missTurned 112 = .ok (.ifCond .eq 7, 3) := by decide +kernel
theorem dX2_missTurned_115 : decode cX2_missTurned 115 = .ok (.iconst (-1), 1) := by decide +kernel
theorem dX2_missTurned_116 : decode cX2_missTurned 116 = .ok (.goto 4, 3) := by decide +kernel
theorem dX2_missTurned_119 : decode cX2_missTurned 119 = .ok (.iconst 1, 1) := by decide +kernel
theorem dX2_missTurned_120 : decode cX2_missTurned 120 = .ok (.istore 10, 2) := by decide +kernel
theorem dX2_missTurned_122 : decode cX2_missTurned 122 = .ok (.iload 7, 2) := by decide +kernel
theorem dX2_missTurned_124 : decode cX2_missTurned 124 = .ok (.ifCond .eq 7, 3) := by decide +kernel
theorem dX2_missTurned_127 : decode cX2_missTurned 127 = .ok (.iconst (-1), 1) := by decide +kernel
theorem dX2_missTurned_128 : decode cX2_missTurned 128 = .ok (.goto 4, 3) := by decide +kernel
theorem dX2_missTurned_131 : decode cX2_missTurned 131 = .ok (.iconst 1, 1) := by decide +kernel
theorem dX2_missTurned_132 : decode cX2_missTurned 132 = .ok (.istore 11, 2) := by decide +kernel
theorem dX2_missTurned_134 : decode cX2_missTurned 134 = .ok (.iconst 0, 1) := by decide +kernel
theorem dX2_missTurned_135 : decode cX2_missTurned 135 = .ok (.istore 12, 2) := by decide +kernel
theorem dX2_missTurned_137 : decode cX2_missTurned 137 = .ok (.aload_n 0, 1) := by decide +kernel
theorem dX2_missTurned_138 : decode cX2_missTurned 138 = .ok (.iload_n 1, 1) := by decide +kernel
theorem dX2_missTurned_139 : decode cX2_missTurned 139 = .ok (.invokevirtual 66, 3) := by decide +kernel
theorem dX2_missTurned_142 : decode cX2_missTurned 142 = .ok (.istore 13, 2) := by decide +kernel
theorem dX2_missTurned_144 : decode cX2_missTurned 144 = .ok (.iload 13, 2) := by decide +kernel
theorem dX2_missTurned_146 : decode cX2_missTurned 146 = .ok (.ifCond .le 80, 3) := by decide +kernel
theorem dX2_missTurned_149 : decode cX2_missTurned 149 = .ok (.aload_n 0, 1) := by decide +kernel
theorem dX2_missTurned_150 : decode cX2_missTurned 150 = .ok (.getfield 9, 3) := by decide +kernel
theorem dX2_missTurned_153 : decode cX2_missTurned 153 = .ok (.iload 8, 2) := by decide +kernel
theorem dX2_missTurned_155 : decode cX2_missTurned 155 = .ok (.iaload, 1) := by decide +kernel
theorem dX2_missTurned_156 : decode cX2_missTurned 156 = .ok (.bipush 15, 2) := by decide +kernel
theorem dX2_missTurned_158 : decode cX2_missTurned 158 = .ok (.iand, 1) := by decide +kernel
theorem dX2_missTurned_159 : decode cX2_missTurned 159 = .ok (.aload_n 0, 1) := by decide +kernel
theorem dX2_missTurned_160 : decode cX2_missTurned 160 = .ok (.getfield 9, 3) := by decide +kernel
theorem dX2_missTurned_163 : decode cX2_missTurned 163 = .ok (.iload 9, 2) := by decide +kernel
theorem dX2_missTurned_165 : decode cX2_missTurned 165 = .ok (.iaload, 1) := by decide +kernel
theorem dX2_missTurned_166 : decode cX2_missTurned 166 = .ok (.bipush 15, 2) := by decide +kernel
theorem dX2_missTurned_168 : decode cX2_missTurned 168 = .ok (.iand, 1) := by decide +kernel
theorem dX2_missTurned_169 : decode cX2_missTurned 169 = .ok (.isub, 1) := by decide +kernel
theorem dX2_missTurned_170 : decode cX2_missTurned 170 = .ok (.istore 14, 2) := by decide +kernel
theorem dX2_missTurned_172 : decode cX2_missTurned 172 = .ok (.iload 14, 2) := by decide +kernel
theorem dX2_missTurned_174 : decode cX2_missTurned 174 = .ok (.ifCond .ge 8, 3) := by decide +kernel
theorem dX2_missTurned_177 : decode cX2_missTurned 177 = .ok (.iload 14, 2) := by decide +kernel
theorem dX2_missTurned_179 : decode cX2_missTurned 179 = .ok (.ineg, 1) := by decide +kernel
theorem dX2_missTurned_180 : decode cX2_missTurned 180 = .ok (.istore 14, 2) := by decide +kernel
theorem dX2_missTurned_182 : decode cX2_missTurned 182 = .ok (.iload 14, 2) := by decide +kernel
theorem dX2_missTurned_184 : decode cX2_missTurned 184 = .ok (.aload_n 0, 1) := by decide +kernel
theorem dX2_missTurned_185 : decode cX2_missTurned 185 = .ok (.getfield 24, 3) := by decide +kernel
theorem dX2_missTurned_188 : decode cX2_missTurned 188 = .ok (.if_icmp .le 18, 3) := by decide +kernel
theorem dX2_missTurned_191 : decode cX2_missTurned 191 = .ok (.bipush 10, 2) := by decide +kernel
theorem dX2_missTurned_193 : decode cX2_missTurned 193 = .ok (.iload 14, 2) := by decide +kernel
theorem dX2_missTurned_195 : decode cX2_missTurned 195 = .ok (.isub, 1) := by decide +kernel
theorem dX2_missTurned_196 : decode cX2_missTurned 196 = .ok (.aload_n 0, 1) := by decide +kernel
theorem dX2_missTurned_197 : decode cX2_missTurned 197 = .ok (.getfield 24, 3) := by decide +kernel
theorem dX2_missTurned_200 : decode cX2_missTurned 200 = .ok (.if_icmp .le 6, 3) := by decide +kernel
theorem dX2_missTurned_203 : decode cX2_missTurned 203 = .ok (.iinc 12 1, 3) := by decide +kernel
theorem dX2_missTurned_206 : decode cX2_missTurned 206 = .ok (.iload 8, 2) := by decide +kernel
theorem dX2_missTurned_208 : decode cX2_missTurned 208 = .ok (.iload 10, 2) := by decide +kernel
theorem dX2_missTurned_210 : decode cX2_missTurned 210 = .ok (.iadd, 1) := by decide +kernel
theorem dX2_missTurned_211 : decode cX2_missTurned 211 = .ok (.istore 8, 2) := by decide +kernel
theorem dX2_missTurned_213 : decode cX2_missTurned 213 = .ok (.iload 9, 2) := by decide +kernel
theorem dX2_missTurned_215 : decode cX2_missTurned 215 = .ok (.iload 11, 2) := by decide +kernel
theorem dX2_missTurned_217 : decode cX2_missTurned 217 = .ok (.iadd, 1) := by decide +kernel
theorem dX2_missTurned_218 : decode cX2_missTurned 218 = .ok (.istore 9, 2) := by decide +kernel
theorem dX2_missTurned_220 : decode cX2_missTurned 220 = .ok (.iinc 13 (-1), 3) := by decide +kernel
theorem dX2_missTurned_223 : decode cX2_missTurned 223 = .ok (.goto (-79), 3) := by decide +kernel
theorem dX2_missTurned_226 : decode cX2_missTurned 226 = .ok (.iload 12, 2) := by decide +kernel
theorem dX2_missTurned_228 : decode cX2_missTurned 228 = .ok (.ireturn, 1) := by decide +kernel
theorem dX2_seamRows_0 : decode cX2_seamRows 0 = .ok (.iload_n 1, 1) := by decide +kernel
theorem dX2_seamRows_1 : decode cX2_seamRows 1 = .ok (.tableswitch 72 0 3 #[31, 38, 38, 56], 31) := by decide +kernel
theorem dX2_seamRows_32 : decode cX2_seamRows 32 = .ok (.aload_n 0, 1) := by decide +kernel
theorem dX2_seamRows_33 : decode cX2_seamRows 33 = .ok (.getfield 15, 3) := by decide +kernel
theorem dX2_seamRows_36 : decode cX2_seamRows 36 = .ok (.iconst 0, 1) := by decide +kernel
theorem dX2_seamRows_37 : decode cX2_seamRows 37 = .ok (.iaload, 1) := by decide +kernel
theorem dX2_seamRows_38 : decode cX2_seamRows 38 = .ok (.ireturn, 1) := by decide +kernel
theorem dX2_seamRows_39 : decode cX2_seamRows 39 = .ok (.aload_n 0, 1) := by decide +kernel
theorem dX2_seamRows_40 : decode cX2_seamRows 40 = .ok (.getfield 15, 3) := by decide +kernel
theorem dX2_seamRows_43 : decode cX2_seamRows 43 = .ok (.iconst 0, 1) := by decide +kernel
theorem dX2_seamRows_44 : decode cX2_seamRows 44 = .ok (.iaload, 1) := by decide +kernel
theorem dX2_seamRows_45 : decode cX2_seamRows 45 = .ok (.iconst 2, 1) := by decide +kernel
theorem dX2_seamRows_46 : decode cX2_seamRows 46 = .ok (.idiv, 1) := by decide +kernel
theorem dX2_seamRows_47 : decode cX2_seamRows 47 = .ok (.aload_n 0, 1) := by decide +kernel
theorem dX2_seamRows_48 : decode cX2_seamRows 48 = .ok (.getfield 15, 3) := by decide +kernel
theorem dX2_seamRows_51 : decode cX2_seamRows 51 = .ok (.iconst 2, 1) := by decide +kernel
theorem dX2_seamRows_52 : decode cX2_seamRows 52 = .ok (.iaload, 1) := by decide +kernel
theorem dX2_seamRows_53 : decode cX2_seamRows 53 = .ok (.invokestatic 69, 3) := by decide +kernel
theorem dX2_seamRows_56 : decode cX2_seamRows 56 = .ok (.ireturn, 1) := by decide +kernel
theorem dX2_seamRows_57 : decode cX2_seamRows 57 = .ok (.aload_n 0, 1) := by decide +kernel
theorem dX2_seamRows_58 : decode cX2_seamRows 58 = .ok (.getfield 15, 3) := by decide +kernel
theorem dX2_seamRows_61 : decode cX2_seamRows 61 = .ok (.iconst 4, 1) := by decide +kernel
theorem dX2_seamRows_62 : decode cX2_seamRows 62 = .ok (.iaload, 1) := by decide +kernel
theorem dX2_seamRows_63 : decode cX2_seamRows 63 = .ok (.aload_n 0, 1) := by decide +kernel
theorem dX2_seamRows_64 : decode cX2_seamRows 64 = .ok (.getfield 15, 3) := by decide +kernel
theorem dX2_seamRows_67 : decode cX2_seamRows 67 = .ok (.iconst 0, 1) := by decide +kernel
theorem dX2_seamRows_68 : decode cX2_seamRows 68 = .ok (.iaload, 1) := by decide +kernel
theorem dX2_seamRows_69 : decode cX2_seamRows 69 = .ok (.invokestatic 69, 3) := by decide +kernel
theorem dX2_seamRows_72 : decode cX2_seamRows 72 = .ok (.ireturn, 1) := by decide +kernel
theorem dX2_seamRows_73 : decode cX2_seamRows 73 = .ok (.aload_n 0, 1) := by decide +kernel
theorem dX2_seamRows_74 : decode cX2_seamRows 74 = .ok (.getfield 15, 3) := by decide +kernel
theorem dX2_seamRows_77 : decode cX2_seamRows 77 = .ok (.iconst 5, 1) := by decide +kernel
theorem dX2_seamRows_78 : decode cX2_seamRows 78 = .ok (.iaload, 1) := by decide +kernel
theorem dX2_seamRows_79 : decode cX2_seamRows 79 = .ok (.aload_n 0, 1) := by decide +kernel
theorem dX2_seamRows_80 : decode cX2_seamRows 80 = .ok (.getfield 15, 3) := by decide +kernel
theorem dX2_seamRows_83 : decode cX2_seamRows 83 = .ok (.iconst 4, 1) := by decide +kernel
theorem dX2_seamRows_84 : decode cX2_seamRows 84 = .ok (.iaload, 1) := by decide +kernel
theorem dX2_seamRows_85 : decode cX2_seamRows 85 = .ok (.invokestatic 69, 3) := by decide +kernel
theorem dX2_seamRows_88 : decode cX2_seamRows 88 = .ok (.ireturn, 1) := by decide +kernel
