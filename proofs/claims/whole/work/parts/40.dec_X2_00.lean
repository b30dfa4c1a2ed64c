theorem dX2_init_0 : decode cX2_init 0 = .ok (.aload_n 0, 1) := by decide +kernel
theorem dX2_init_1 : decode cX2_init 1 = .ok (.invokespecial 3, 3) := by decide +kernel
theorem dX2_init_4 : decode cX2_init 4 = .ok (.aload_n 0, 1) := by decide +kernel
theorem dX2_init_5 : decode cX2_init 5 = .ok (.iconst 0, 1) := by decide +kernel
theorem dX2_init_6 : decode cX2_init 6 = .ok (.newarray .int, 2) := by decide +kernel
theorem dX2_init_8 : decode cX2_init 8 = .ok (.putfield 9, 3) := by decide +kernel
theorem dX2_init_11 : decode cX2_init 11 = .ok (.aload_n 0, 1) := by decide +kernel
theorem dX2_init_12 : decode cX2_init 12 = .ok (.bipush 6, 2) := by decide +kernel
theorem dX2_init_14 : decode cX2_init 14 = .ok (.newarray .int, 2) := by decide +kernel
theorem dX2_init_16 : decode cX2_init 16 = .ok (.putfield 15, 3) := by decide +kernel
theorem dX2_init_19 : decode cX2_init 19 = .ok (.aload_n 0, 1) := by decide +kernel
theorem dX2_init_20 : decode cX2_init 20 = .ok (.iconst 5, 1) := by decide +kernel
theorem dX2_init_21 : decode cX2_init 21 = .ok (.newarray .int, 2) := by decide +kernel
theorem dX2_init_23 : decode cX2_init 23 = .ok (.putfield 18, 3) := by decide +kernel
theorem dX2_init_26 : decode cX2_init 26 = .ok (.aload_n 0, 1) := by decide +kernel
theorem dX2_init_27 : decode cX2_init 27 = .ok (.bipush 121, 2) := by decide +kernel
theorem dX2_init_29 : decode cX2_init 29 = .ok (.newarray .int, 2) := by decide +kernel
theorem dX2_init_31 : decode cX2_init 31 = .ok (.putfield 21, 3) := by decide +kernel
theorem dX2_init_34 : decode cX2_init 34 = .ok (.aload_n 0, 1) := by decide +kernel
theorem dX2_init_35 : decode cX2_init 35 = .ok (.bipush 6, 2) := by decide +kernel
theorem dX2_init_37 : decode cX2_init 37 = .ok (.newarray .int, 2) := by decide +kernel
theorem dX2_init_39 : decode cX2_init 39 = .ok (.putfield 24, 3) := by decide +kernel
theorem dX2_init_42 : decode cX2_init 42 = .ok (.return_, 1) := by decide +kernel
theorem dX2_spread_0 : decode cX2_spread 0 = .ok (.aload_n 0, 1) := by decide +kernel
theorem dX2_spread_1 : decode cX2_spread 1 = .ok (.aload_n 1, 1) := by decide +kernel
theorem dX2_spread_2 : decode cX2_spread 2 = .ok (.putfield 9, 3) := by decide +kernel
theorem dX2_spread_5 : decode cX2_spread 5 = .ok (.aload_n 0, 1) := by decide +kernel
theorem dX2_spread_6 : decode cX2_spread 6 = .ok (.aload_n 2, 1) := by decide +kernel
theorem dX2_spread_7 : decode cX2_spread 7 = .ok (.putfield 15, 3) := by decide +kernel
theorem dX2_spread_10 : decode cX2_spread 10 = .ok (.aload_n 0, 1) := by decide +kernel
theorem dX2_spread_11 : decode cX2_spread 11 = .ok (.iload_n 3, 1) := by decide +kernel
theorem dX2_spread_12 : decode cX2_spread 12 = .ok (.putfield 27, 3) := by decide +kernel
theorem dX2_spread_15 : decode cX2_spread 15 = .ok (.aload_n 0, 1) := by decide +kernel
theorem dX2_spread_16 : decode cX2_spread 16 = .ok (.iload 4, 2) := by decide +kernel
theorem dX2_spread_18 : decode cX2_spread 18 = .ok (.putfield 31, 3) := by decide +kernel
theorem dX2_spread_21 : decode cX2_spread 21 = .ok (.iconst 0, 1) := by decide +kernel
theorem dX2_spread_22 : decode cX2_spread 22 = .ok (.istore 5, 2) := by decide +kernel
theorem dX2_spread_24 : decode cX2_spread 24 = .ok (.iload 5, 2) := by decide +kernel
theorem dX2_spread_26 : decode cX2_spread 26 = .ok (.aload_n 0, 1) := by decide +kernel
theorem dX2_spread_27 : decode cX2_spread 27 = .ok (.getfield 9, 3) := by decide +kernel
theorem dX2_spread_30 : decode cX2_spread 30 = .ok (.arraylength, 1) := by decide +kernel
theorem dX2_spread_31 : decode cX2_spread 31 = .ok (.if_icmp .ge 51, 3) := by decide +kernel
theorem dX2_spread_34 : decode cX2_spread 34 = .ok (.iload 5, 2) := by decide +kernel
theorem dX2_spread_36 : decode cX2_spread 36 = .ok (.bipush 120, 2) := by decide +kernel
theorem dX2_spread_38 : decode cX2_spread 38 = .ok (.if_icmp .ge 44, 3) := by decide +kernel
theorem dX2_spread_41 : decode cX2_spread 41 = .ok (.aload_n 0, 1) := by decide +kernel
theorem dX2_spread_42 : decode cX2_spread 42 = .ok (.getfield 21, 3) := by decide +kernel
theorem dX2_spread_45 : decode cX2_spread 45 = .ok (.iload 5, 2) := by decide +kernel
theorem dX2_spread_47 : decode cX2_spread 47 = .ok (.iconst 1, 1) := by decide +kernel
theorem dX2_spread_48 : decode cX2_spread 48 = .ok (.iadd, 1) := by decide +kernel
theorem dX2_spread_49 : decode cX2_spread 49 = .ok (.aload_n 0, 1) := by decide +kernel
theorem dX2_spread_50 : decode cX2_spread 50 = .ok (.getfield 21, 3) := by decide +kernel
theorem dX2_spread_53 : decode cX2_spread 53 = .ok (.iload 5, 2) := by decide +kernel
theorem dX2_spread_55 : decode cX2_spread 55 = .ok (.iaload, 1) := by decide +kernel
theorem dX2_spread_56 : decode cX2_spread 56 = .ok (.aload_n 0, 1) := by decide +kernel
theorem dX2_spread_57 : decode cX2_spread 57 = .ok (.getfield 9, 3) := by decide +kernel
theorem dX2_spread_60 : decode cX2_spread 60 = .ok (.iload 5, 2) := by decide +kernel
theorem dX2_spread_62 : decode cX2_spread 62 = .ok (.iaload, 1) := by decide +kernel
theorem dX2_spread_63 : decode cX2_spread 63 = .ok (.invokestatic 34, 3) := by decide +kernel
theorem dX2_spread_66 : decode cX2_spread 66 = .ok (.ifCond .eq 7, 3) := by decide +kernel
theorem dX2_spread_69 : decode cX2_spread 69 = .ok (.iconst 1, 1) := by decide +kernel
theorem dX2_spread_70 : decode cX2_spread 70 = .ok (.goto 4, 3) := by decide +kernel
theorem dX2_spread_73 : decode cX2_spread 73 = .ok (.iconst 0, 1) := by decide +kernel
theorem dX2_spread_74 : decode cX2_spread 74 = .ok (.iadd, 1) := by decide +kernel
theorem dX2_spread_75 : decode cX2_spread 75 = .ok (.iastore, 1) := by decide +kernel
theorem dX2_spread_76 : decode cX2_spread 76 = .ok (.iinc 5 1, 3) := by decide +kernel
theorem dX2_spread_79 : decode cX2_spread 79 = .ok (.goto (-55), 3) := by decide +kernel
theorem dX2_spread_82 : decode cX2_spread 82 = .ok (.aload_n 0, 1) := by decide +kernel
theorem dX2_spread_83 : decode cX2_spread 83 = .ok (.invokevirtual 38, 3) := by decide +kernel
theorem dX2_spread_86 : decode cX2_spread 86 = .ok (.return_, 1) := by decide +kernel
theorem dX2_meetAtSeams_0 : decode cX2_meetAtSeams 0 = .ok (.aload_n 0, 1) := by decide +kernel
theorem dX2_meetAtSeams_1 : decode cX2_meetAtSeams 1 = .ok (.getfield 15, 3) := by decide +kernel
theorem dX2_meetAtSeams_4 : decode cX2_meetAtSeams 4 = .ok (.iconst 0, 1) := by decide +kernel
theorem dX2_meetAtSeams_5 : decode cX2_meetAtSeams 5 = .ok (.iaload, 1) := by decide +kernel
theorem dX2_meetAtSeams_6 : decode cX2_meetAtSeams 6 = .ok (.iconst 2, 1) := by decide +kernel
theorem dX2_meetAtSeams_7 : decode cX2_meetAtSeams 7 = .ok (.idiv, 1) := by decide +kernel
theorem dX2_meetAtSeams_8 : decode cX2_meetAtSeams 8 = .ok (.aload_n 0, 1) := by decide +kernel
theorem dX2_meetAtSeams_9 : decode cX2_meetAtSeams 9 = .ok (.getfield 15, 3) := by decide +kernel
theorem dX2_meetAtSeams_12 : decode cX2_meetAtSeams 12 = .ok (.iconst 2, 1) := by decide +kernel
theorem dX2_meetAtSeams_13 : decode cX2_meetAtSeams 13 = .ok (.iaload, 1) := by decide +kernel
theorem dX2_meetAtSeams_14 : decode cX2_meetAtSeams 14 = .ok (.invokestatic 41, 3) := by decide +kernel
theorem dX2_meetAtSeams_17 : decode cX2_meetAtSeams 17 = .ok (.istore_n 1, 1) := by decide +kernel
theorem dX2_meetAtSeams_18 : decode cX2_meetAtSeams 18 = .ok (.aload_n 0, 1) := by decide +kernel
theorem dX2_meetAtSeams_19 : decode cX2_meetAtSeams 19 = .ok (.getfield 18, 3) := by decide +kernel
theorem dX2_meetAtSeams_22 : decode cX2_meetAtSeams 22 = .ok (.iconst 0, 1) := by decide +kernel
theorem dX2_meetAtSeams_23 : decode cX2_meetAtSeams 23 = .ok (.aload_n 0, 1) := by decide +kernel
theorem dX2_meetAtSeams_24 : decode cX2_meetAtSeams 24 = .ok (.getfield 15, 3) := by decide +kernel
theorem dX2_meetAtSeams_27 : decode cX2_meetAtSeams 27 = .ok (.iconst 0, 1) := by decide +kernel
theorem dX2_meetAtSeams_28 : decode cX2_meetAtSeams 28 = .ok (.iaload, 1) := by decide +kernel
theorem dX2_meetAtSeams_29 : decode cX2_meetAtSeams 29 = .ok (.iastore, 1) := by decide +kernel
theorem dX2_meetAtSeams_30 : decode cX2_meetAtSeams 30 = .ok (.aload_n 0, 1) := by decide +kernel
theorem dX2_meetAtSeams_31 : decode cX2_meetAtSeams 31 = .ok (.getfield 18, 3) := by decide +kernel
theorem dX2_meetAtSeams_34 : decode cX2_meetAtSeams 34 = .ok (.iconst 1, 1) := by decide +kernel
theorem dX2_meetAtSeams_35 : decode cX2_meetAtSeams 35 = .ok (.iload_n 1, 1) := by decide +kernel
theorem dX2_meetAtSeams_36 : decode cX2_meetAtSeams 36 = .ok (.iastore, 1) := by decide +kernel
theorem dX2_meetAtSeams_37 : decode cX2_meetAtSeams 37 = .ok (.aload_n 0, 1) := by decide +kernel
theorem dX2_meetAtSeams_38 : decode cX2_meetAtSeams 38 = .ok (.getfield 18, 3) := by decide +kernel
theorem dX2_meetAtSeams_41 : decode cX2_meetAtSeams 41 = .ok (.iconst 2, 1) := by decide +kernel
theorem dX2_meetAtSeams_42 : decode cX2_meetAtSeams 42 = .ok (.iload_n 1, 1) := by decide +kernel
theorem dX2_meetAtSeams_43 : decode cX2_meetAtSeams 43 = .ok (.iastore, 1) := by decide +kernel
theorem dX2_meetAtSeams_44 : decode cX2_meetAtSeams 44 = .ok (.aload_n 0, 1) := by decide +kernel
theorem dX2_meetAtSeams_45 : decode cX2_meetAtSeams 45 = .ok (.getfield 18, 3) := by decide +kernel
theorem dX2_meetAtSeams_48 : decode cX2_meetAtSeams 48 = .ok (.iconst 3, 1) := by decide +kernel
theorem dX2_meetAtSeams_49 : decode cX2_meetAtSeams 49 = .ok (.aload_n 0, 1) := by decide +kernel
theorem dX2_meetAtSeams_50 : decode cX2_meetAtSeams 50 = .ok (.getfield 15, 3) := by decide +kernel
theorem dX2_meetAtSeams_53 : decode cX2_meetAtSeams 53 = .ok (.iconst 4, 1) := by decide +kernel
theorem dX2_meetAtSeams_54 : decode cX2_meetAtSeams 54 = .ok (.iaload, 1) := by decide +kernel
theorem dX2_meetAtSeams_55 : decode cX2_meetAtSeams 55 = .ok (.aload_n 0, 1) := by decide +kernel
theorem dX2_meetAtSeams_56 : decode cX2_meetAtSeams 56 = .ok (.getfield 15, 3) := by decide +kernel
theorem dX2_meetAtSeams_59 : decode cX2_meetAtSeams 59 = .ok (.iconst 0, 1) := by decide +kernel
theorem dX2_meetAtSeams_60 : decode cX2_meetAtSeams 60 = .ok (.iaload, 1) := by decide +kernel
theorem dX2_meetAtSeams_61 : decode cX2_meetAtSeams 61 = .ok (.invokestatic 41, 3) := by decide +kernel
theorem dX2_meetAtSeams_64 : decode cX2_meetAtSeams 64 = .ok (.iastore, 1) := by decide +kernel
theorem dX2_meetAtSeams_65 : decode cX2_meetAtSeams 65 = .ok (.aload_n 0, 1) := by decide +kernel
theorem dX2_meetAtSeams_66 : decode cX2_meetAtSeams 66 = .ok (.getfield 18, 3) := by decide +kernel
theorem dX2_meetAtSeams_69 : decode cX2_meetAtSeams 69 = .ok (.iconst 4, 1) := by decide +kernel
theorem dX2_meetAtSeams_70 : decode cX2_meetAtSeams 70 = .ok (.aload_n 0, 1) := by decide +kernel
theorem dX2_meetAtSeams_71 : decode cX2_meetAtSeams 71 = .ok (.getfield 15, 3) := by decide +kernel
theorem dX2_meetAtSeams_74 : decode cX2_meetAtSeams 74 = .ok (.iconst 5, 1) := by decide +kernel
theorem dX2_meetAtSeams_75 : decode cX2_meetAtSeams 75 = .ok (.iaload, 1) := by decide +kernel
theorem dX2_meetAtSeams_76 : decode cX2_meetAtSeams 76 = .ok (.aload_n 0, 1) := by decide +kernel
theorem dX2_meetAtSeams_77 : decode cX2_meetAtSeams 77 = .ok (.getfield 15, 3) := by decide +kernel
theorem dX2_meetAtSeams_80 : decode cX2_meetAtSeams 80 = .ok (.iconst 4, 1) := by decide +kernel
theorem dX2_meetAtSeams_81 : decode cX2_meetAtSeams 81 = .ok (.iaload, 1) := by decide +kernel
theorem dX2_meetAtSeams_82 : decode cX2_meetAtSeams 82 = .ok (.invokestatic 41, 3) := by decide +kernel
theorem dX2_meetAtSeams_85 : decode cX2_meetAtSeams 85 = .ok (.iastore, 1) := by decide +kernel
theorem dX2_meetAtSeams_86 : decode cX2_meetAtSeams 86 = .ok (.return_, 1) := by decide +kernel
theorem dX2_isSpot_0 : decode cX2_isSpot 0 = .ok (.iload_n 0, 1) := by decide +kernel
theorem dX2_isSpot_1 : decode cX2_isSpot 1 = .ok (.bipush 16, 2) := by decide +kernel
theorem dX2_isSpot_3 : decode cX2_isSpot 3 = .ok (.iand, 1) := by decide +kernel
theorem dX2_isSpot_4 : decode cX2_isSpot 4 = .ok (.ifCond .ne 10, 3) := by decide +kernel
theorem dX2_isSpot_7 : decode cX2_isSpot 7 = .ok (.iload_n 0, 1) := by decide +kernel
theorem dX2_isSpot_8 : decode cX2_isSpot 8 = .ok (.iconst 5, 1) := by decide +kernel
theorem dX2_isSpot_9 : decode cX2_isSpot 9 = .ok (.ishr, 1) := by decide +kernel
theorem dX2_isSpot_10 : decode cX2_isSpot 10 = .ok (.iconst 3, 1) := by decide +kernel
theorem dX2_isSpot_11 : decode cX2_isSpot 11 = .ok (.if_icmp .lt 7, 3) := by decide +kernel
theorem dX2_isSpot_14 : decode cX2_isSpot 14 = .ok (.iconst 1, 1) := by decide +kernel
theorem dX2_isSpot_15 : decode cX2_isSpot 15 = .ok (.goto 4, 3) := by decide +kernel
theorem dX2_isSpot_18 : decode cX2_isSpot 18 = .ok (.iconst 0, 1) := by decide +kernel
theorem dX2_isSpot_19 : decode cX2_isSpot 19 = .ok (.ireturn, 1) := by decide +kernel
theorem dX2_lay_0 : decode cX2_lay 0 = .ok (.aload_n 0, 1) := by decide +kernel
theorem dX2_lay_1 : decode cX2_lay 1 = .ok (.iload_n 2, 1) := by decide +kernel
theorem dX2_lay_2 : decode cX2_lay 2 = .ok (.putfield 47, 3) := by decide +kernel
theorem dX2_lay_5 : decode cX2_lay 5 = .ok (.iconst 0, 1) := by decide +kernel
theorem dX2_lay_6 : decode cX2_lay 6 = .ok (.istore_n 3, 1) := by decide +kernel
theorem dX2_lay_7 : decode cX2_lay 7 = .ok (.iconst 0, 1) := by decide +kernel
theorem dX2_lay_8 : decode cX2_lay 8 = .ok (.istore 4, 2) := by decide +kernel
theorem dX2_lay_10 : decode cX2_lay 10 = .ok (.iload 4, 2) := by decide +kernel
theorem dX2_lay_12 : decode cX2_lay 12 = .ok (.bipush 6, 2) := by decide +kernel
theorem dX2_lay_14 : decode cX2_lay 14 = .ok (.if_icmp .ge 35, 3) := by decide +kernel
theorem dX2_lay_17 : decode cX2_lay 17 = .ok (.iload_n 1, 1) := by decide +kernel
theorem dX2_lay_18 : decode cX2_lay 18 = .ok (.iload 4, 2) := by decide +kernel
theorem dX2_lay_20 : decode cX2_lay 20 = .ok (.invokestatic 50, 3) := by decide +kernel
theorem dX2_lay_23 : decode cX2_lay 23 = .ok (.istore 5, 2) := by decide +kernel
theorem dX2_lay_25 : decode cX2_lay 25 = .ok (.aload_n 0, 1) := by decide +kernel
theorem dX2_lay_26 : decode cX2_lay 26 = .ok (.getfield 24, 3) := by decide +kernel
theorem dX2_lay_29 : decode cX2_lay 29 = .ok (.iload 5, 2) := by decide +kernel
theorem dX2_lay_31 : decode cX2_lay 31 = .ok (.iload_n 3, 1) := by decide +kernel
theorem dX2_lay_32 : decode cX2_lay 32 = .ok (.iastore, 1) := by decide +kernel
theorem dX2_lay_33 : decode cX2_lay 33 = .ok (.iload_n 3, 1) := by decide +kernel
theorem dX2_lay_34 : decode cX2_lay 34 = .ok (.aload_n 0, 1) := by decide +kernel
theorem dX2_lay_35 : decode cX2_lay 35 = .ok (.getfield 15, 3) := by decide +kernel
theorem dX2_lay_38 : decode cX2_lay 38 = .ok (.iload 5, 2) := by decide +kernel
theorem dX2_lay_40 : decode cX2_lay 40 = .ok (.iaload, 1) := by decide +kernel
theorem dX2_lay_41 : decode cX2_lay 41 = .ok (.iadd, 1) := by decide +kernel
theorem dX2_lay_42 : decode cX2_lay 42 = .ok (.istore_n 3, 1) := by decide +kernel
theorem dX2_lay_43 : decode cX2_lay 43 = .ok (.iinc 4 1, 3) := by decide +kernel
theorem dX2_lay_46 : decode cX2_lay 46 = .ok (.goto (-36), 3) := by decide +kernel
theorem dX2_lay_49 : decode cX2_lay 49 = .ok (.return_, 1) := by decide +kernel
theorem dX2_turnOf_0 : decode cX2_turnOf 0 = .ok (.aload_n 0, 1) := by decide +kernel
theorem dX2_turnOf_1 : decode cX2_turnOf 1 = .ok (.getfield 47, 3) := by decide +kernel
theorem dX2_turnOf_4 : decode cX2_turnOf 4 = .ok (.iload_n 1, 1) := by decide +kernel
theorem dX2_turnOf_5 : decode cX2_turnOf 5 = .ok (.ishr, 1) := by decide +kernel
theorem dX2_turnOf_6 : decode cX2_turnOf 6 = .ok (.iconst 1, 1) := by decide +kernel
theorem dX2_turnOf_7 : decode cX2_turnOf 7 = .ok (.iand, 1) := by decide +kernel
theorem dX2_turnOf_8 : decode cX2_turnOf 8 = .ok (.ireturn, 1) := by decide +kernel
theorem dX2_placeOf_0 : decode cX2_placeOf 0 = .ok (.aload_n 0, 1) := by decide +kernel
theorem dX2_placeOf_1 : decode cX2_placeOf 1 = .ok (.getfield 24, 3) := by decide +kernel
theorem dX2_placeOf_4 : decode cX2_placeOf 4 = .ok (.iload_n 1, 1) := by decide +kernel
theorem dX2_placeOf_5 : decode cX2_placeOf 5 = .ok (.iaload, 1) := by decide +kernel
theorem dX2_placeOf_6 : decode cX2_placeOf 6 = .ok (.aload_n 0, 1) := by decide +kernel
theorem dX2_placeOf_7 : decode cX2_placeOf 7 = .ok (.iload_n 1, 1) := by decide +kernel
theorem dX2_placeOf_8 : decode cX2_placeOf 8 = .ok (.invokevirtual 53, 3) := by decide +kernel
theorem dX2_placeOf_11 : decode cX2_placeOf 11 = .ok (.ifCond .ne 7, 3) := by decide +kernel
theorem dX2_placeOf_14 : decode cX2_placeOf 14 = .ok (.iload_n 2, 1) := by decide +kernel
theorem dX2_placeOf_15 : decode cX2_placeOf 15 = .ok (.goto 13, 3) := by decide +kernel
theorem dX2_placeOf_18 : decode cX2_placeOf 18 = .ok (.aload_n 0, 1) := by decide +kernel
theorem dX2_placeOf_19 : decode cX2_placeOf 19 = .ok (.getfield 15, 3) := by decide +kernel
theorem dX2_placeOf_22 : decode cX2_placeOf 22 = .ok (.iload_n 1, 1) := by decide +kernel
theorem dX2_placeOf_23 : decode cX2_placeOf 23 = .ok (.iaload, 1) := by decide +kernel
theorem dX2_placeOf_24 : decode cX2_placeOf 24 = .ok (.iconst 1, 1) := by decide +kernel
theorem dX2_placeOf_25 : decode cX2_placeOf 25 = .ok (.isub, 1) := by decide +kernel
theorem dX2_placeOf_26 : decode cX2_placeOf 26 = .ok (.iload_n 2, 1) := by decide +kernel
theorem dX2_placeOf_27 : decode cX2_placeOf 27 = .ok (.isub, 1) := by decide +kernel
theorem dX2_placeOf_28 : decode cX2_placeOf 28 = .ok (.iadd, 1) := by decide +kernel
theorem dX2_placeOf_29 : decode cX2_placeOf 29 = .ok (.ireturn, 1) := by decide +kernel
theorem dX2_isOnCloth_0 : decode cX2_isOnCloth 0 = .ok (.iload_n 1, 1) := by decide +kernel
theorem dX2_isOnCloth_1 : decode cX2_isOnCloth 1 = .ok (.ifCond .lt 16, 3) := by decide +kernel
theorem dX2_isOnCloth_4 : decode cX2_isOnCloth 4 = .ok (.iload_n 1, 1) := by decide +kernel
theorem dX2_isOnCloth_5 : decode cX2_isOnCloth 5 = .ok (.aload_n 0, 1) := by decide +kernel
theorem dX2_isOnCloth_6 : decode cX2_isOnCloth 6 = .ok (.getfield 9, 3) := by decide +kernel
theorem dX2_isOnCloth_9 : decode cX2_isOnCloth 9 = .ok (.arraylength, 1) := by decide +kernel
theorem dX2_isOnCloth_10 : decode cX2_isOnCloth 10 = .ok (.if_icmp .ge 7, 3) := by decide +kernel
theorem dX2_isOnCloth_13 : decode cX2_isOnCloth 13 = .ok (.iconst 1, 1) := by decide +kernel
theorem dX2_isOnCloth_14 : decode cX2_isOnCloth 14 = .ok (.goto 4, 3) := by decide +kernel
theorem dX2_isOnCloth_17 : decode cX2_isOnCloth 17 = .ok (.iconst 0, 1) := by decide +kernel
theorem dX2_isOnCloth_18 : decode cX2_isOnCloth 18 = .ok (.ireturn, 1) := by decide +kernel
theorem dX2_patternAt_0 : decode cX2_patternAt 0 = .ok (.iload_n 1, 1) := by decide +kernel
theorem dX2_patternAt_1 : decode cX2_patternAt 1 = .ok (.ifCond .lt 24, 3) := by decide +kernel
theorem dX2_patternAt_4 : decode cX2_patternAt 4 = .ok (.iload_n 1, 1) := by decide +kernel
theorem dX2_patternAt_5 : decode cX2_patternAt 5 = .ok (.aload_n 0, 1) := by decide +kernel
theorem dX2_patternAt_6 : decode cX2_patternAt 6 = .ok (.getfield 9, 3) := by decide +kernel
theorem dX2_patternAt_9 : decode cX2_patternAt 9 = .ok (.arraylength, 1) := by decide +kernel
theorem dX2_patternAt_10 : decode cX2_patternAt 10 = .ok (.if_icmp .ge 15, 3) := by decide +kernel
theorem dX2_patternAt_13 : decode cX2_patternAt 13 = .ok (.aload_n 0, 1) := by decide +kernel
theorem dX2_patternAt_14 : decode cX2_patternAt 14 = .ok (.getfield 9, 3) := by decide +kernel
theorem dX2_patternAt_17 : decode cX2_patternAt 17 = .ok (.iload_n 1, 1) := by decide +kernel
theorem dX2_patternAt_18 : decode cX2_patternAt 18 = .ok (.iaload, 1) := by decide +kernel
theorem dX2_patternAt_19 : decode cX2_patternAt 19 = .ok (.bipush 15, 2) := by decide +kernel
theorem dX2_patternAt_21 : decode cX2_patternAt 21 = .ok (.iand, 1) := by decide +kernel
theorem dX2_patternAt_22 : decode cX2_patternAt 22 = .ok (.goto 4, 3) := by decide +kernel
theorem dX2_patternAt_25 : decode cX2_patternAt 25 = .ok (.iconst 0, 1) := by decide +kernel
theorem dX2_patternAt_26 : decode cX2_patternAt 26 = .ok (.ireturn, 1) := by decide +kernel
theorem dX2_cutRows_0 : decode cX2_cutRows 0 = .ok (.aload_n 0, 1) := by decide +kernel
theorem dX2_cutRows_1 : decode cX2_cutRows 1 = .ok (.getfield 9, 3) := by decide +kernel
theorem dX2_cutRows_4 : decode cX2_cutRows 4 = .ok (.arraylength, 1) := by decide +kernel
theorem dX2_cutRows_5 : decode cX2_cutRows 5 = .ok (.newarray .int, 2) := by decide +kernel
theorem dX2_cutRows_7 : decode cX2_cutRows 7 = .ok (.astore_n 1, 1) := by decide +kernel
theorem dX2_cutRows_8 : decode cX2_cutRows 8 = .ok (.iconst 0, 1) := by decide +kernel
theorem dX2_cutRows_9 : decode cX2_cutRows 9 = .ok (.istore_n 2, 1) := by decide +kernel
theorem dX2_cutRows_10 : decode cX2_cutRows 10 = .ok (.iconst 0, 1) := by decide +kernel
theorem dX2_cutRows_11 : decode cX2_cutRows 11 = .ok (.istore_n 3, 1) := by decide +kernel
theorem dX2_cutRows_12 : decode cX2_cutRows 12 = .ok (.iload_n 3, 1) := by decide +kernel
theorem dX2_cutRows_13 : decode cX2_cutRows 13 = .ok (.bipush 6, 2) := by decide +kernel
theorem dX2_cutRows_15 : decode cX2_cutRows 15 = .ok (.if_icmp .ge 68, 3) := by decide +kernel
theorem dX2_cutRows_18 : decode cX2_cutRows 18 = .ok (.iconst 0, 1) := by decide +kernel
theorem dX2_cutRows_19 : decode cX2_cutRows 19 = .ok (.istore 4, 2) := by decide +kernel
theorem dX2_cutRows_21 : decode cX2_cutRows 21 = .ok (.iload 4, 2) := by decide +kernel
theorem dX2_cutRows_23 : decode cX2_cutRows 23 = .ok (.aload_n 0, 1) := by decide +kernel
theorem dX2_cutRows_24 : decode cX2_cutRows 24 = .ok (.getfield 15, 3) := by decide +kernel
theorem dX2_cutRows_27 : decode cX2_cutRows 27 = .ok (.iload_n 3, 1) := by decide +kernel
theorem dX2_cutRows_28 : decode cX2_cutRows 28 = .ok (.iaload, 1) := by decide +kernel
theorem dX2_cutRows_29 : decode cX2_cutRows 29 = .ok (.if_icmp .ge 48, 3) := by decide +kernel
theorem dX2_cutRows_32 : decode cX2_cutRows 32 = .ok (.aload_n 0, 1) := by decide +kernel
theorem dX2_cutRows_33 : decode cX2_cutRows 33 = .ok (.iload_n 3, 1) := by decide +kernel
theorem dX2_cutRows_34 : decode cX2_cutRows 34 = .ok (.iload 4, 2) := by decide +kernel
theorem dX2_cutRows_36 : decode cX2_cutRows 36 = .ok (.invokevirtual 57, 3) := by decide +kernel
theorem dX2_cutRows_39 : decode cX2_cutRows 39 = .ok (.istore 5, 2) := by decide +kernel
theorem dX2_cutRows_41 : decode cX2_cutRows 41 = .ok (.aload_n 0, 1) := by decide +kernel
theorem dX2_cutRows_42 : decode cX2_cutRows 42 = .ok (.iload_n 2, 1) := by decide +kernel
theorem dX2_cutRows_43 : decode cX2_cutRows 43 = .ok (.invokevirtual 60, 3) := by decide +kernel
theorem dX2_cutRows_46 : decode cX2_cutRows 46 = .ok (.ifCond .eq 22, 3) := by decide +kernel
theorem dX2_cutRows_49 : decode cX2_cutRows 49 = .ok (.aload_n 0, 1) := by decide +kernel
theorem dX2_cutRows_50 : decode cX2_cutRows 50 = .ok (.iload 5, 2) := by decide +kernel
theorem dX2_cutRows_52 : decode cX2_cutRows 52 = .ok (.invokevirtual 60, 3) := by decide +kernel
theorem dX2_cutRows_55 : decode cX2_cutRows 55 = .ok (.ifCond .eq 13, 3) := by decide +kernel
theorem dX2_cutRows_58 : decode cX2_cutRows 58 = .ok (.aload_n 1, 1) := by decide +kernel
theorem dX2_cutRows_59 : decode cX2_cutRows 59 = .ok (.iload_n 2, 1) := by decide +kernel
theorem dX2_cutRows_60 : decode cX2_cutRows 60 = .ok (.aload_n 0, 1) := by decide +kernel
theorem dX2_cutRows_61 : decode cX2_cutRows 61 = .ok (.getfield 9, 3) := by decide +kernel
theorem dX2_cutRows_64 : decode cX2_cutRows 64 = .ok (.iload 5, 2) := by decide +kernel
theorem dX2_cutRows_66 : decode cX2_cutRows 66 = .ok (.iaload, 1) := by decide +kernel
theorem dX2_cutRows_67 : decode cX2_cutRows 67 = .ok (.iastore, 1) := by decide +kernel
theorem dX2_cutRows_68 : decode cX2_cutRows 68 = .ok (.iinc 2 1, 3) := by decide +kernel
theorem dX2_cutRows_71 : decode cX2_cutRows 71 = .ok (.iinc 4 1, 3) := by decide +kernel
theorem dX2_cutRows_74 : decode cX2_cutRows 74 = .ok (.goto (-53), 3) := by decide +kernel
theorem dX2_cutRows_77 : decode cX2_cutRows 77 = .ok (.iinc 3 1, 3) := by decide +kernel
theorem dX2_cutRows_80 : decode cX2_cutRows 80 = .ok (.goto (-68), 3) := by decide +kernel
theorem dX2_cutRows_83 : decode cX2_cutRows 83 = .ok (.aload_n 1, 1) := by decide +kernel
theorem dX2_cutRows_84 : decode cX2_cutRows 84 = .ok (.areturn, 1) := by decide +kernel
theorem dX2_joinRows_0 : decode cX2_joinRows 0 = .ok (.aload_n 0, 1) := by decide +kernel
theorem dX2_joinRows_1 : decode cX2_joinRows 1 = .ok (.getfield 9, 3) := by decide +kernel
theorem dX2_joinRows_4 : decode cX2_joinRows 4 = .ok (.arraylength, 1) := by decide +kernel
theorem dX2_joinRows_5 : decode cX2_joinRows 5 = .ok (.newarray .int, 2) := by decide +kernel
theorem dX2_joinRows_7 : decode cX2_joinRows 7 = .ok (.astore_n 1, 1) := by decide +kernel
theorem dX2_joinRows_8 : decode cX2_joinRows 8 = .ok (.iconst 0, 1) := by decide +kernel
theorem dX2_joinRows_9 : decode cX2_joinRows 9 = .ok (.istore_n 2, 1) := by decide +kernel
theorem dX2_joinRows_10 : decode cX2_joinRows 10 = .ok (.iconst 0, 1) := by decide +kernel
theorem dX2_joinRows_11 : decode cX2_joinRows 11 = .ok (.istore_n 3, 1) := by decide +kernel
theorem dX2_joinRows_12 : decode cX2_joinRows 12 = .ok (.iload_n 3, 1) := by decide +kernel
theorem dX2_joinRows_13 : decode cX2_joinRows 13 = .ok (.bipush 6, 2) := by decide +kernel
theorem dX2_joinRows_15 : decode cX2_joinRows 15 = .ok (.if_icmp .ge 68, 3) := by decide +kernel
theorem dX2_joinRows_18 : decode cX2_joinRows 18 = .ok (.iconst 0, 1) := by decide +kernel
theorem dX2_joinRows_19 : decode cX2_joinRows 19 = .ok (.istore 4, 2) := by decide +kernel
theorem dX2_joinRows_21 : decode cX2_joinRows 21 = .ok (.iload 4, 2) := by decide +kernel
theorem dX2_joinRows_23 : decode cX2_joinRows 23 = .ok (.aload_n 0, 1) := by decide +kernel
theorem dX2_joinRows_24 : decode cX2_joinRows 24 = .ok (.getfield 15, 3) := by decide +kernel
theorem dX2_joinRows_27 : decode cX2_joinRows 27 = .ok (.iload_n 3, 1) := by decide +kernel
theorem dX2_joinRows_28 : decode cX2_joinRows 28 = .ok (.iaload, 1) := by decide +kernel
theorem dX2_joinRows_29 : decode cX2_joinRows 29 = .ok (.if_icmp .ge 48, 3) := by decide +kernel
theorem dX2_joinRows_32 : decode cX2_joinRows 32 = .ok (.aload_n 0, 1) := by decide +kernel
theorem dX2_joinRows_33 : decode cX2_joinRows 33 = .ok (.iload_n 3, 1) := by decide +kernel
theorem dX2_joinRows_34 : decode cX2_joinRows 34 = .ok (.iload 4, 2) := by decide +kernel
theorem dX2_joinRows_36 : decode cX2_joinRows 36 = .ok (.invokevirtual 57, 3) := by decide +kernel
theorem dX2_joinRows_39 : decode cX2_joinRows 39 = .ok (.istore 5, 2) := by decide +kernel
theorem dX2_joinRows_41 : decode cX2_joinRows 41 = .ok (.aload_n 0, 1) := by decide +kernel
theorem dX2_joinRows_42 : decode cX2_joinRows 42 = .ok (.iload_n 2, 1) := by decide +kernel
theorem dX2_joinRows_43 : decode cX2_joinRows 43 = .ok (.invokevirtual 60, 3) := by decide +kernel
theorem dX2_joinRows_46 : decode cX2_joinRows 46 = .ok (.ifCond .eq 22, 3) := by decide +kernel
theorem dX2_joinRows_49 : decode cX2_joinRows 49 = .ok (.aload_n 0, 1) := by decide +kernel
theorem dX2_joinRows_50 : decode cX2_joinRows 50 = .ok (.iload 5, 2) := by decide +kernel
theorem dX2_joinRows_52 : decode cX2_joinRows 52 = .ok (.invokevirtual 60, 3) := by decide +kernel
theorem dX2_joinRows_55 : decode cX2_joinRows 55 = .ok (.ifCond .eq 13, 3) := by decide +kernel
theorem dX2_joinRows_58 : decode cX2_joinRows 58 = .ok (.aload_n 1, 1) := by decide +kernel
theorem dX2_joinRows_59 : decode cX2_joinRows 59 = .ok (.iload 5, 2) := by decide +kernel
theorem dX2_joinRows_61 : decode cX2_joinRows 61 = .ok (.aload_n 0, 1) := by decide +kernel
theorem dX2_joinRows_62 : decode cX2_joinRows 62 = .ok (.getfield 9, 3) := by decide +kernel
theorem dX2_joinRows_65 : decode cX2_joinRows 65 = .ok (.iload_n 2, 1) := by decide +kernel
theorem dX2_joinRows_66 : decode cX2_joinRows 66 = .ok (.iaload, 1) := by decide +kernel
theorem dX2_joinRows_67 : decode cX2_joinRows 67 = .ok (.iastore, 1) := by decide +kernel
theorem dX2_joinRows_68 : decode cX2_joinRows 68 = .ok (.iinc 2 1, 3) := by decide +kernel
theorem dX2_joinRows_71 : decode cX2_joinRows 71 = .ok (.iinc 4 1, 3) := by decide +kernel
theorem dX2_joinRows_74 : decode cX2_joinRows 74 = .ok (.goto (-53), 3) := by decide +kernel
theorem dX2_joinRows_77 : decode cX2_joinRows 77 = .ok (.iinc 3 1, 3) := by decide +kernel
theorem dX2_joinRows_80 : decode cX2_joinRows 80 = .ok (.goto (-68), 3) := by decide +kernel
theorem dX2_joinRows_83 : decode cX2_joinRows 83 = .ok (.aload_n 1, 1) := by decide +kernel
theorem dX2_joinRows_84 : decode cX2_joinRows 84 = .ok (.areturn, 1) := by decide +kernel
theorem dX2_uglySum_0 : decode cX2_uglySum 0 = .ok (.iconst 5, 1) := by decide +kernel
theorem dX2_uglySum_1 : decode cX2_uglySum 1 = .ok (.aload_n 0, 1) := by decide +kernel
theorem dX2_uglySum_2 : decode cX2_uglySum 2 = .ok (.invokevirtual 63, 3) := by decide +kernel
theorem dX2_uglySum_5 : decode cX2_uglySum 5 = .ok (.imul, 1) := by decide +kernel
theorem dX2_uglySum_6 : decode cX2_uglySum 6 = .ok (.istore_n 1, 1) := by decide +kernel
theorem dX2_uglySum_7 : decode cX2_uglySum 7 = .ok (.iconst 0, 1) := by decide +kernel
theorem dX2_uglySum_8 : decode cX2_uglySum 8 = .ok (.istore_n 2, 1) := by decide +kernel
theorem dX2_uglySum_9 : decode cX2_uglySum 9 = .ok (.iload_n 2, 1) := by decide +kernel
theorem dX2_uglySum_10 : decode cX2_uglySum 10 = .ok (.iconst 5, 1) := by decide +kernel
theorem dX2_uglySum_11 : decode cX2_uglySum 11 = .ok (.if_icmp .ge 17, 3) := by decide +kernel
theorem dX2_uglySum_14 : decode cX2_uglySum 14 = .ok (.iload_n 1, 1) := by decide +kernel
theorem dX2_uglySum_15 : decode cX2_uglySum 15 = .ok (.aload_n 0, 1) := by decide +kernel
theorem dX2_uglySum_16 : decode cX2_uglySum 16 = .ok (.iload_n 2, 1) := by decide +kernel
theorem dX2_uglySum_17 : decode cX2_uglySum 17 = .ok (.invokevirtual 67, 3) := by decide +kernel
theorem dX2_uglySum_20 : decode cX2_uglySum 20 = .ok (.iadd, 1) := by decide +kernel
theorem dX2_uglySum_21 : decode cX2_uglySum 21 = .ok (.istore_n 1, 1) := by decide +kernel
theorem dX2_uglySum_22 : decode cX2_uglySum 22 = .ok (.iinc 2 1, 3) := by decide +kernel
theorem dX2_uglySum_25 : decode cX2_uglySum 25 = .ok (.goto (-16), 3) := by decide +kernel
theorem dX2_uglySum_28 : decode cX2_uglySum 28 = .ok (.iload_n 1, 1) := by decide +kernel
theorem dX2_uglySum_29 : decode cX2_uglySum 29 = .ok (.ireturn, 1) := by decide +kernel
theorem dX2_shownSum_0 : decode cX2_shownSum 0 = .ok (.iconst 0, 1) := by decide +kernel
theorem dX2_shownSum_1 : decode cX2_shownSum 1 = .ok (.istore_n 1, 1) := by decide +kernel
theorem dX2_shownSum_2 : decode cX2_shownSum 2 = .ok (.iconst 0, 1) := by decide +kernel
theorem dX2_shownSum_3 : decode cX2_shownSum 3 = .ok (.istore_n 2, 1) := by decide +kernel
theorem dX2_shownSum_4 : decode cX2_shownSum 4 = .ok (.iload_n 2, 1) := by decide +kernel
theorem dX2_shownSum_5 : decode cX2_shownSum 5 = .ok (.bipush 6, 2) := by decide +kernel
theorem dX2_shownSum_7 : decode cX2_shownSum 7 = .ok (.if_icmp .ge 17, 3) := by decide +kernel
theorem dX2_shownSum_10 : decode cX2_shownSum 10 = .ok (.iload_n 1, 1) := by decide +kernel
theorem dX2_shownSum_11 : decode cX2_shownSum 11 = .ok (.aload_n 0, 1) := by decide +kernel
theorem dX2_shownSum_12 : decode cX2_shownSum 12 = .ok (.iload_n 2, 1) := by decide +kernel
theorem dX2_shownSum_13 : decode cX2_shownSum 13 = .ok (.invokevirtual 70, 3) := by decide +kernel
theorem dX2_shownSum_16 : decode cX2_shownSum 16 = .ok (.iadd, 1) := by decide +kernel
theorem dX2_shownSum_17 : decode cX2_shownSum 17 = .ok (.istore_n 1, 1) := by decide +kernel
theorem dX2_shownSum_18 : decode cX2_shownSum 18 = .ok (.iinc 2 1, 3) := by decide +kernel
theorem dX2_shownSum_21 : decode cX2_shownSum 21 = .ok (.goto (-17), 3) := by decide +kernel
theorem dX2_shownSum_24 : decode cX2_shownSum 24 = .ok (.iload_n 1, 1) := by decide +kernel
theorem dX2_shownSum_25 : decode cX2_shownSum 25 = .ok (.ireturn, 1) := by decide +kernel
theorem dX2_shownOf_0 : decode cX2_shownOf 0 = .ok (.aload_n 0, 1) := by decide +kernel
theorem dX2_shownOf_1 : decode cX2_shownOf 1 = .ok (.getfield 24, 3) := by decide +kernel
theorem dX2_shownOf_4 : decode cX2_shownOf 4 = .ok (.iload_n 1, 1) := by decide +kernel
theorem dX2_shownOf_5 : decode cX2_shownOf 5 = .ok (.iaload, 1) := by decide +kernel
theorem dX2_shownOf_6 : decode cX2_shownOf 6 = .ok (.aload_n 0, 1) := by decide +kernel
theorem dX2_shownOf_7 : decode cX2_shownOf 7 = .ok (.getfield 31, 3) := by decide +kernel
theorem dX2_shownOf_10 : decode cX2_shownOf 10 = .ok (.iadd, 1) := by decide +kernel
theorem dX2_shownOf_11 : decode cX2_shownOf 11 = .ok (.istore_n 2, 1) := by decide +kernel
theorem dX2_shownOf_12 : decode cX2_shownOf 12 = .ok (.aload_n 0, 1) := by decide +kernel
theorem dX2_shownOf_13 : decode cX2_shownOf 13 = .ok (.getfield 24, 3) := by decide +kernel
theorem dX2_shownOf_16 : decode cX2_shownOf 16 = .ok (.iload_n 1, 1) := by decide +kernel
theorem dX2_shownOf_17 : decode cX2_shownOf 17 = .ok (.iaload, 1) := by decide +kernel
theorem dX2_shownOf_18 : decode cX2_shownOf 18 = .ok (.aload_n 0, 1) := by decide +kernel
theorem dX2_shownOf_19 : decode cX2_shownOf 19 = .ok (.getfield 15, 3) := by decide +kernel
theorem dX2_shownOf_22 : decode cX2_shownOf 22 = .ok (.iload_n 1, 1) := by decide +kernel
theorem dX2_shownOf_23 : decode cX2_shownOf 23 = .ok (.iaload, 1) := by decide +kernel
theorem dX2_shownOf_24 : decode cX2_shownOf 24 = .ok (.iadd, 1) := by decide +kernel
theorem dX2_shownOf_25 : decode cX2_shownOf 25 = .ok (.aload_n 0, 1) := by decide +kernel
theorem dX2_shownOf_26 : decode cX2_shownOf 26 = .ok (.getfield 31, 3) := by decide +kernel
theorem dX2_shownOf_29 : decode cX2_shownOf 29 = .ok (.isub, 1) := by decide +kernel
theorem dX2_shownOf_30 : decode cX2_shownOf 30 = .ok (.istore_n 3, 1) := by decide +kernel
theorem dX2_shownOf_31 : decode cX2_shownOf 31 = .ok (.iload_n 2, 1) := by decide +kernel
theorem dX2_shownOf_32 : decode cX2_shownOf 32 = .ok (.ifCond .lt 30, 3) := by decide +kernel
theorem dX2_shownOf_35 : decode cX2_shownOf 35 = .ok (.iload_n 2, 1) := by decide +kernel
theorem dX2_shownOf_36 : decode cX2_shownOf 36 = .ok (.iload_n 3, 1) := by decide +kernel
theorem dX2_shownOf_37 : decode cX2_shownOf 37 = .ok (.if_icmp .ge 25, 3) := by decide +kernel
theorem dX2_shownOf_40 : decode cX2_shownOf 40 = .ok (.iload_n 3, 1) := by decide +kernel
theorem dX2_shownOf_41 : decode cX2_shownOf 41 = .ok (.bipush 120, 2) := by decide +kernel
theorem dX2_shownOf_43 : decode cX2_shownOf 43 = .ok (.if_icmp .gt 19, 3) := by decide +kernel
theorem dX2_shownOf_46 : decode cX2_shownOf 46 = .ok (.aload_n 0, 1) := by decide +kernel
theorem dX2_shownOf_47 : decode cX2_shownOf 47 = .ok (.getfield 21, 3) := by decide +kernel
theorem dX2_shownOf_50 : decode cX2_shownOf 50 = .ok (.iload_n 3, 1) := by decide +kernel
theorem dX2_shownOf_51 : decode cX2_shownOf 51 = .ok (.iaload, 1) := by decide +kernel
theorem dX2_shownOf_52 : decode cX2_shownOf 52 = .ok (.aload_n 0, 1) := by decide +kernel
theorem dX2_shownOf_53 : decode cX2_shownOf 53 = .ok (.getfield 21, 3) := by decide +kernel
theorem dX2_shownOf_56 : decode cX2_shownOf 56 = .ok (.iload_n 2, 1) := by decide +kernel
theorem dX2_shownOf_57 : decode cX2_shownOf 57 = .ok (.iaload, 1) := by decide +kernel
theorem dX2_shownOf_58 : decode cX2_shownOf 58 = .ok (.isub, 1) := by decide +kernel
theorem dX2_shownOf_59 : decode cX2_shownOf 59 = .ok (.goto 4, 3) := by decide +kernel
theorem dX2_shownOf_62 : decode cX2_shownOf 62 = .ok (.iconst 0, 1) := by decide +kernel
theorem dX2_shownOf_63 : decode cX2_shownOf 63 = .ok (.ireturn, 1) := by decide +kernel
theorem dX2_missOf_0 : decode cX2_missOf 0 = .ok (.aload_n 0, 1) := by decide +kernel
theorem dX2_missOf_1 : decode cX2_missOf 1 = .ok (.iload_n 1, 1) := by decide +kernel
theorem dX2_missOf_2 : decode cX2_missOf 2 = .ok (.aload_n 0, 1) := by decide +kernel
theorem dX2_missOf_3 : decode cX2_missOf 3 = .ok (.iload_n 1, 1) := by decide +kernel
theorem dX2_missOf_4 : decode cX2_missOf 4 = .ok (.iconst 1, 1) := by decide +kernel
theorem dX2_missOf_5 : decode cX2_missOf 5 = .ok (.iadd, 1) := by decide +kernel
theorem dX2_missOf_6 : decode cX2_missOf 6 = .ok (.invokevirtual 53, 3) := by decide +kernel
theorem dX2_missOf_9 : decode cX2_missOf 9 = .ok (.aload_n 0, 1) := by decide +kernel
theorem dX2_missOf_10 : decode cX2_missOf 10 = .ok (.getstatic 73, 3) := by decide +kernel
theorem dX2_missOf_13 : decode cX2_missOf 13 = .ok (.iload_n 1, 1) := by decide +kernel
theorem dX2_missOf_14 : decode cX2_missOf 14 = .ok (.iaload, 1) := by decide +kernel
theorem dX2_missOf_15 : decode cX2_missOf 15 = .ok (.invokevirtual 53, 3) := by decide +kernel
theorem dX2_missOf_18 : decode cX2_missOf 18 = .ok (.invokevirtual 76, 3) := by decide +kernel
theorem dX2_missOf_21 : decode cX2_missOf 21 = .ok (.ireturn, 1) := by decide +kernel
theorem dX2_missTurned_0 : decode cX2_missTurned 0 = .ok (.iload_n 1, 1) := by decide +kernel
theorem dX2_missTurned_1 : decode cX2_missTurned 1 = .ok (.iconst 1, 1) := by decide +kernel
theorem dX2_missTurned_2 : decode cX2_missTurned 2 = .ok (.iadd, 1) := by decide +kernel
theorem dX2_missTurned_3 : decode cX2_missTurned 3 = .ok (.istore 4, 2) := by decide +kernel
theorem dX2_missTurned_5 : decode cX2_missTurned 5 = .ok (.getstatic 73, 3) := by decide +kernel
theorem dX2_missTurned_8 : decode cX2_missTurned 8 = .ok (.iload_n 1, 1) := by decide +kernel
theorem dX2_missTurned_9 : decode cX2_missTurned 9 = .ok (.iaload, 1) := by decide +kernel
theorem dX2_missTurned_10 : decode cX2_missTurned 10 = .ok (.istore 5, 2) := by decide +kernel
theorem dX2_missTurned_12 : decode cX2_missTurned 12 = .ok (.iload_n 2, 1) := by decide +kernel
theorem dX2_missTurned_13 : decode cX2_missTurned 13 = .ok (.iconst 1, 1) := by decide +kernel
theorem dX2_missTurned_14 : decode cX2_missTurned 14 = .ok (.if_icmp .ne 7, 3) := by decide +kernel
theorem dX2_missTurned_17 : decode cX2_missTurned 17 = .ok (.iconst 1, 1) := by decide +kernel
theorem dX2_missTurned_18 : decode cX2_missTurned 18 = .ok (.goto 4, 3) := by decide +kernel
theorem dX2_missTurned_21 : decode cX2_missTurned 21 = .ok (.iconst 0, 1) := by decide +kernel
theorem dX2_missTurned_22 : decode cX2_missTurned 22 = .ok (.istore 6, 2) := by decide +kernel
theorem dX2_missTurned_24 : decode cX2_missTurned 24 = .ok (.iload_n 3, 1) := by decide +kernel
theorem dX2_missTurned_25 : decode cX2_missTurned 25 = .ok (.iconst 1, 1) := by decide +kernel
theorem dX2_missTurned_26 : decode cX2_missTurned 26 = .ok (.if_icmp .ne 7, 3) := by decide +kernel
theorem dX2_missTurned_29 : decode cX2_missTurned 29 = .ok (.iconst 1, 1) := by decide +kernel
theorem dX2_missTurned_30 : decode cX2_missTurned 30 = .ok (.goto 4, 3) := by decide +kernel
theorem dX2_missTurned_33 : decode cX2_missTurned 33 = .ok (.iconst 0, 1) := by decide +kernel
theorem dX2_missTurned_34 : decode cX2_missTurned 34 = .ok (.iload_n 1, 1) := by decide +kernel
theorem dX2_missTurned_35 : decode cX2_missTurned 35 = .ok (.iconst 3, 1) := by decide +kernel
theorem dX2_missTurned_36 : decode cX2_missTurned 36 = .ok (.if_icmp .ne 7, 3) := by decide +kernel
theorem dX2_missTurned_39 : decode cX2_missTurned 39 = .ok (.iconst 1, 1) := by decide +kernel
theorem dX2_missTurned_40 : decode cX2_missTurned 40 = .ok (.goto 4, 3) := by decide +kernel
theorem dX2_missTurned_43 : decode cX2_missTurned 43 = .ok (.iconst 0, 1) := by decide +kernel
theorem dX2_missTurned_44 : decode cX2_missTurned 44 = .ok (.if_icmp .eq 7, 3) := by decide +kernel
theorem dX2_missTurned_47 : decode cX2_missTurned 47 = .ok (.iconst 1, 1) := by decide +kernel
theorem dX2_missTurned_48 : decode cX2_missTurned 48 = .ok (.goto 4, 3) := by decide +kernel
theorem dX2_missTurned_51 : decode cX2_missTurned 51 = .ok (.iconst 0, 1) := by decide +kernel
theorem dX2_missTurned_52 : decode cX2_missTurned 52 = .ok (.istore 7, 2) := by decide +kernel
theorem dX2_missTurned_54 : decode cX2_missTurned 54 = .ok (.aload_n 0, 1) := by decide +kernel
theorem dX2_missTurned_55 : decode cX2_missTurned 55 = .ok (.getfield 24, 3) := by decide +kernel
theorem dX2_missTurned_58 : decode cX2_missTurned 58 = .ok (.iload 4, 2) := by decide +kernel
theorem dX2_missTurned_60 : decode cX2_missTurned 60 = .ok (.iaload, 1) := by decide +kernel
theorem dX2_missTurned_61 : decode cX2_missTurned 61 = .ok (.iload 6, 2) := by decide +kernel
theorem dX2_missTurned_63 : decode cX2_missTurned 63 = .ok (.ifCond .eq 15, 3) := by decide +kernel
theorem dX2_missTurned_66 : decode cX2_missTurned 66 = .ok (.aload_n 0, 1) := by decide +kernel
theorem dX2_missTurned_67 : decode cX2_missTurned 67 = .ok (.getfield 15, 3) := by decide +kernel
theorem dX2_missTurned_70 : decode cX2_missTurned 70 = .ok (.iload 4, 2) := by decide +kernel
theorem dX2_missTurned_72 : decode cX2_missTurned 72 = .ok (.iaload, 1) := by decide +kernel
theorem dX2_missTurned_73 : decode cX2_missTurned 73 = .ok (.iconst 1, 1) := by decide +kernel
theorem dX2_missTurned_74 : decode cX2_missTurned 74 = .ok (.isub, 1) := by decide +kernel
theorem dX2_missTurned_75 : decode cX2_missTurned 75 = .ok (.goto 4, 3) := by decide +kernel
theorem dX2_missTurned_78 : decode cX2_missTurned 78 = .ok (.iconst 0, 1) := by decide +kernel
theorem dX2_missTurned_79 : decode cX2_missTurned 79 = .ok (.iadd, 1) := by decide +kernel
theorem dX2_missTurned_80 : decode cX2_missTurned 80 = .ok (.istore 8, 2) := by decide +kernel
theorem dX2_missTurned_82 : decode cX2_missTurned 82 = .ok (.aload_n 0, 1) := by decide +kernel
theorem dX2_missTurned_83 : decode cX2_missTurned 83 = .ok (.getfield 24, 3) := by decide +kernel
theorem dX2_missTurned_86 : decode cX2_missTurned 86 = .ok (.iload 5, 2) := by decide +kernel
theorem dX2_missTurned_88 : decode cX2_missTurned 88 = .ok (.iaload, 1) := by decide +kernel
theorem dX2_missTurned_89 : decode cX2_missTurned 89 = .ok (.iload 7, 2) := by decide +kernel
theorem dX2_missTurned_91 : decode cX2_missTurned 91 = .ok (.ifCond .eq 15, 3) := by decide +kernel
theorem dX2_missTurned_94 : decode cX2_missTurned 94 = .ok (.aload_n 0, 1) := by decide +kernel
theorem dX2_missTurned_95 : decode cX2_missTurned 95 = .ok (.getfield 15, 3) := by decide +kernel
theorem dX2_missTurned_98 : decode cX2_missTurned 98 = .ok (.iload 5, 2) := by decide +kernel
theorem dX2_missTurned_100 : decode cX2_missTurned 100 = .ok (.iaload, 1) := by decide +kernel
theorem dX2_missTurned_101 : decode cX2_missTurned 101 = .ok (.iconst 1, 1) := by decide +kernel
theorem dX2_missTurned_102 : decode cX2_missTurned 102 = .ok (.isub, 1) := by decide +kernel
theorem dX2_missTurned_103 : decode cX2_missTurned 103 = .ok (.goto 4, 3) := by decide +kernel
theorem dX2_missTurned_106 : decode cX2_missTurned 106 = .ok (.iconst 0, 1) := by decide +kernel
theorem dX2_missTurned_107 : decode cX2_missTurned 107 = .ok (.iadd, 1) := by decide +kernel
theorem dX2_missTurned_108 : decode cX2_missTurned 108 = .ok (.istore 9, 2) := by decide +kernel
theorem dX2_missTurned_110 : decode cX2_missTurned 110 = .ok (.iload 6, 2) := by decide +kernel
theorem dX2_missTurned_112 : decode cX2_missTurned 112 = .ok (.ifCond .eq 7, 3) := by decide +kernel
theorem dX2_missTurned_115 : decode cX2_missTurned 115 = .ok (.iconst (-1), 1) := by decide +kernel
theorem dX2_missTurned_116 : decode cX2_missTurned 116 = .ok (.goto 4, 3) := by decide +kernel
theorem dX2_missTurned_119 : decode cX2_missTurned 119 = .ok (.iconst 1, 1) := by decide +kernel
theorem dX2_missTurned_120 : decode cX2_missTurned 120 = .ok (.istore 10, 2) := by decide +kernel
theorem dX2_missTurned_122 : decode cX2_missTurned 122 = .ok (.iload 7, 2) := by decide +kernel
theorem dX2_missTurned_124 : decode cX2_missTurned 124 = .ok (.ifCond .eq 7, 3) := by decide +kernel
theorem dX2_missTurned_127 : decode cX2_missTurned 127 = .ok (.iconst (-1), 1) := by decide +kernel
theorem dX2_missTurned_128 : decode cX2_missTurned 128 = .ok (.goto 4, 3) := by decide +kernel
theorem dX2_missTurned_131 : decode cX2_missTurned 131 = .ok (.iconst 1, 1) := by decide +kernel
theorem dX2_missTurned_132 : decode cX2_missTurned 132 = .ok (.istore 11, 2) := by decide +kernel
theorem dX2_missTurned_134 : decode cX2_missTurned 134 = .ok (.iconst 0, 1) := by decide +kernel
theorem dX2_missTurned_135 : decode cX2_missTurned 135 = .ok (.istore 12, 2) := by decide +kernel
theorem dX2_missTurned_137 : decode cX2_missTurned 137 = .ok (.aload_n 0, 1) := by decide +kernel
theorem dX2_missTurned_138 : decode cX2_missTurned 138 = .ok (.getfield 18, 3) := by decide +kernel
theorem dX2_missTurned_141 : decode cX2_missTurned 141 = .ok (.iload_n 1, 1) := by decide +kernel
theorem dX2_missTurned_142 : decode cX2_missTurned 142 = .ok (.iaload, 1) := by decide +kernel
theorem dX2_missTurned_143 : decode cX2_missTurned 143 = .ok (.istore 13, 2) := by decide +kernel
theorem dX2_missTurned_145 : decode cX2_missTurned 145 = .ok (.iload 13, 2) := by decide +kernel
theorem dX2_missTurned_147 : decode cX2_missTurned 147 = .ok (.ifCond .le 65, 3) := by decide +kernel
theorem dX2_missTurned_150 : decode cX2_missTurned 150 = .ok (.aload_n 0, 1) := by decide +kernel
theorem dX2_missTurned_151 : decode cX2_missTurned 151 = .ok (.iload 8, 2) := by decide +kernel
theorem dX2_missTurned_153 : decode cX2_missTurned 153 = .ok (.invokevirtual 80, 3) := by decide +kernel
theorem dX2_missTurned_156 : decode cX2_missTurned 156 = .ok (.aload_n 0, 1) := by decide +kernel
theorem dX2_missTurned_157 : decode cX2_missTurned 157 = .ok (.iload 9, 2) := by decide +kernel
theorem dX2_missTurned_159 : decode cX2_missTurned 159 = .ok (.invokevirtual 80, 3) := by decide +kernel
theorem dX2_missTurned_162 : decode cX2_missTurned 162 = .ok (.isub, 1) := by decide +kernel
theorem dX2_missTurned_163 : decode cX2_missTurned 163 = .ok (.invokestatic 83, 3) := by decide +kernel
theorem dX2_missTurned_166 : decode cX2_missTurned 166 = .ok (.istore 14, 2) := by decide +kernel
theorem dX2_missTurned_168 : decode cX2_missTurned 168 = .ok (.iload 14, 2) := by decide +kernel
theorem dX2_missTurned_170 : decode cX2_missTurned 170 = .ok (.aload_n 0, 1) := by decide +kernel
theorem dX2_missTurned_171 : decode cX2_missTurned 171 = .ok (.getfield 27, 3) := by decide +kernel
theorem dX2_missTurned_174 : decode cX2_missTurned 174 = .ok (.if_icmp .le 18, 3) := by decide +kernel
theorem dX2_missTurned_177 : decode cX2_missTurned 177 = .ok (.bipush 10, 2) := by decide +kernel
theorem dX2_missTurned_179 : decode cX2_missTurned 179 = .ok (.iload 14, 2) := by decide +kernel
theorem dX2_missTurned_181 : decode cX2_missTurned 181 = .ok (.isub, 1) := by decide +kernel
theorem dX2_missTurned_182 : decode cX2_missTurned 182 = .ok (.aload_n 0, 1) := by decide +kernel
theorem dX2_missTurned_183 : decode cX2_missTurned 183 = .ok (.getfield 27, 3) := by decide +kernel
theorem dX2_missTurned_186 : decode cX2_missTurned 186 = .ok (.if_icmp .le 6, 3) := by decide +kernel
theorem dX2_missTurned_189 : decode cX2_missTurned 189 = .ok (.iinc 12 1, 3) := by decide +kernel
theorem dX2_missTurned_192 : decode cX2_missTurned 192 = .ok (.iload 8, 2) := by decide +kernel
theorem dX2_missTurned_194 : decode cX2_missTurned 194 = .ok (.iload 10, 2) := by decide +kernel
theorem dX2_missTurned_196 : decode cX2_missTurned 196 = .ok (.iadd, 1) := by decide +kernel
theorem dX2_missTurned_197 : decode cX2_missTurned 197 = .ok (.istore 8, 2) := by decide +kernel
theorem dX2_missTurned_199 : decode cX2_missTurned 199 = .ok (.iload 9, 2) := by decide +kernel
theorem dX2_missTurned_201 : decode cX2_missTurned 201 = .ok (.iload 11, 2) := by decide +kernel
theorem dX2_missTurned_203 : decode cX2_missTurned 203 = .ok (.iadd, 1) := by decide +kernel
theorem dX2_missTurned_204 : decode cX2_missTurned 204 = .ok (.istore 9, 2) := by decide +kernel
theorem dX2_missTurned_206 : decode cX2_missTurned 206 = .ok (.iinc 13 (-1), 3) := by decide +kernel
theorem dX2_missTurned_209 : decode cX2_missTurned 209 = .ok (.goto (-64), 3) := by decide +kernel
theorem dX2_missTurned_212 : decode cX2_missTurned 212 = .ok (.iload 12, 2) := by decide +kernel
theorem dX2_missTurned_214 : decode cX2_missTurned 214 = .ok (.ireturn, 1) := by decide +kernel
