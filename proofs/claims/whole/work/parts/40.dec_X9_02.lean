theorem dX9_robesThere_31 : decode cX9_robesThere 31 = .ok (.ireturn, 1) := by decide +kernel
theorem dX9_robesLent_0 : decode cX9_robesLent 0 = .ok (.iconst 0, 1) := by decide +kernel
theorem dX9_robesLent_1 : decode cX9_robesLent 1 = .ok (.istore_n 1, 1) := by decide +kernel
theorem dX9_robesLent_2 : decode cX9_robesLent 2 = .ok (.iconst 0, 1) := by decide +kernel
theorem dX9_robesLent_3 : decode cX9_robesLent 3 = .ok (.istore_n 2, 1) := by decide +kernel
theorem dX9_robesLent_4 : decode cX9_robesLent 4 = .ok (.iload_n 2, 1) := by decide +kernel
theorem dX9_robesLent_5 : decode cX9_robesLent 5 = .ok (.aload_n 0, 1) := by decide +kernel
theorem dX9_robesLent_6 : decode cX9_robesLent 6 = .ok (.getfield 175, 3) := by decide +kernel
theorem dX9_robesLent_9 : decode cX9_robesLent 9 = .ok (.if_icmp .ge 31, 3) := by decide +kernel
theorem dX9_robesLent_12 : decode cX9_robesLent 12 = .ok (.aload_n 0, 1) := by decide +kernel
theorem dX9_robesLent_13 : decode cX9_robesLent 13 = .ok (.getfield 31, 3) := by decide +kernel
theorem dX9_robesLent_16 : decode cX9_robesLent 16 = .ok (.iload_n 2, 1) := by decide +kernel
theorem dX9_robesLent_17 : decode cX9_robesLent 17 = .ok (.aaload, 1) := by decide +kernel
theorem dX9_robesLent_18 : decode cX9_robesLent 18 = .ok (.astore_n 3, 1) := by decide +kernel
theorem dX9_robesLent_19 : decode cX9_robesLent 19 = .ok (.aload_n 3, 1) := by decide +kernel
theorem dX9_robesLent_20 : decode cX9_robesLent 20 = .ok (.ifnull 14, 3) := by decide +kernel
theorem dX9_robesLent_23 : decode cX9_robesLent 23 = .ok (.aload_n 3, 1) := by decide +kernel
theorem dX9_robesLent_24 : decode cX9_robesLent 24 = .ok (.getfield 210, 3) := by decide +kernel
theorem dX9_robesLent_27 : decode cX9_robesLent 27 = .ok (.iconst (-1), 1) := by decide +kernel
theorem dX9_robesLent_28 : decode cX9_robesLent 28 = .ok (.if_icmp .eq 6, 3) := by decide +kernel
theorem dX9_robesLent_31 : decode cX9_robesLent 31 = .ok (.iinc 1 1, 3) := by decide +kernel
theorem dX9_robesLent_34 : decode cX9_robesLent 34 = .ok (.iinc 2 1, 3) := by decide +kernel
theorem dX9_robesLent_37 : decode cX9_robesLent 37 = .ok (.goto (-33), 3) := by decide +kernel
theorem dX9_robesLent_40 : decode cX9_robesLent 40 = .ok (.iload_n 1, 1) := by decide +kernel
theorem dX9_robesLent_41 : decode cX9_robesLent 41 = .ok (.ireturn, 1) := by decide +kernel
theorem dX9_rowsThere_0 : decode cX9_rowsThere 0 = .ok (.iconst 0, 1) := by decide +kernel
theorem dX9_rowsThere_1 : decode cX9_rowsThere 1 = .ok (.istore_n 1, 1) := by decide +kernel
theorem dX9_rowsThere_2 : decode cX9_rowsThere 2 = .ok (.iconst 0, 1) := by decide +kernel
theorem dX9_rowsThere_3 : decode cX9_rowsThere 3 = .ok (.istore_n 2, 1) := by decide +kernel
theorem dX9_rowsThere_4 : decode cX9_rowsThere 4 = .ok (.iload_n 2, 1) := by decide +kernel
theorem dX9_rowsThere_5 : decode cX9_rowsThere 5 = .ok (.aload_n 0, 1) := by decide +kernel
theorem dX9_rowsThere_6 : decode cX9_rowsThere 6 = .ok (.getfield 99, 3) := by decide +kernel
theorem dX9_rowsThere_9 : decode cX9_rowsThere 9 = .ok (.if_icmp .ge 28, 3) := by decide +kernel
theorem dX9_rowsThere_12 : decode cX9_rowsThere 12 = .ok (.aload_n 0, 1) := by decide +kernel
theorem dX9_rowsThere_13 : decode cX9_rowsThere 13 = .ok (.getfield 25, 3) := by decide +kernel
theorem dX9_rowsThere_16 : decode cX9_rowsThere 16 = .ok (.iload_n 2, 1) := by decide +kernel
theorem dX9_rowsThere_17 : decode cX9_rowsThere 17 = .ok (.aaload, 1) := by decide +kernel
theorem dX9_rowsThere_18 : decode cX9_rowsThere 18 = .ok (.astore_n 3, 1) := by decide +kernel
theorem dX9_rowsThere_19 : decode cX9_rowsThere 19 = .ok (.aload_n 3, 1) := by decide +kernel
theorem dX9_rowsThere_20 : decode cX9_rowsThere 20 = .ok (.ifnull 11, 3) := by decide +kernel
theorem dX9_rowsThere_23 : decode cX9_rowsThere 23 = .ok (.iload_n 1, 1) := by decide +kernel
theorem dX9_rowsThere_24 : decode cX9_rowsThere 24 = .ok (.aload_n 3, 1) := by decide +kernel
theorem dX9_rowsThere_25 : decode cX9_rowsThere 25 = .ok (.getfield 126, 3) := by decide +kernel
theorem dX9_rowsThere_28 : decode cX9_rowsThere 28 = .ok (.arraylength, 1) := by decide +kernel
theorem dX9_rowsThere_29 : decode cX9_rowsThere 29 = .ok (.iadd, 1) := by decide +kernel
theorem dX9_rowsThere_30 : decode cX9_rowsThere 30 = .ok (.istore_n 1, 1) := by decide +kernel
theorem dX9_rowsThere_31 : decode cX9_rowsThere 31 = .ok (.iinc 2 1, 3) := by decide +kernel
theorem dX9_rowsThere_34 : decode cX9_rowsThere 34 = .ok (.goto (-30), 3) := by decide +kernel
theorem dX9_rowsThere_37 : decode cX9_rowsThere 37 = .ok (.iconst 0, 1) := by decide +kernel
theorem dX9_rowsThere_38 : decode cX9_rowsThere 38 = .ok (.istore_n 2, 1) := by decide +kernel
theorem dX9_rowsThere_39 : decode cX9_rowsThere 39 = .ok (.iload_n 2, 1) := by decide +kernel
theorem dX9_rowsThere_40 : decode cX9_rowsThere 40 = .ok (.aload_n 0, 1) := by decide +kernel
theorem dX9_rowsThere_41 : decode cX9_rowsThere 41 = .ok (.getfield 175, 3) := by decide +kernel
theorem dX9_rowsThere_44 : decode cX9_rowsThere 44 = .ok (.if_icmp .ge 36, 3) := by decide +kernel
theorem dX9_rowsThere_47 : decode cX9_rowsThere 47 = .ok (.aload_n 0, 1) := by decide +kernel
theorem dX9_rowsThere_48 : decode cX9_rowsThere 48 = .ok (.getfield 31, 3) := by decide +kernel
theorem dX9_rowsThere_51 : decode cX9_rowsThere 51 = .ok (.iload_n 2, 1) := by decide +kernel
theorem dX9_rowsThere_52 : decode cX9_rowsThere 52 = .ok (.aaload, 1) := by decide +kernel
theorem dX9_rowsThere_53 : decode cX9_rowsThere 53 = .ok (.astore_n 3, 1) := by decide +kernel
theorem dX9_rowsThere_54 : decode cX9_rowsThere 54 = .ok (.aload_n 3, 1) := by decide +kernel
theorem dX9_rowsThere_55 : decode cX9_rowsThere 55 = .ok (.ifnull 19, 3) := by decide +kernel
theorem dX9_rowsThere_58 : decode cX9_rowsThere 58 = .ok (.iload_n 1, 1) := by decide +kernel
theorem dX9_rowsThere_59 : decode cX9_rowsThere 59 = .ok (.aload_n 3, 1) := by decide +kernel
theorem dX9_rowsThere_60 : decode cX9_rowsThere 60 = .ok (.getfield 194, 3) := by decide +kernel
theorem dX9_rowsThere_63 : decode cX9_rowsThere 63 = .ok (.getfield 126, 3) := by decide +kernel
theorem dX9_rowsThere_66 : decode cX9_rowsThere 66 = .ok (.arraylength, 1) := by decide +kernel
theorem dX9_rowsThere_67 : decode cX9_rowsThere 67 = .ok (.aload_n 3, 1) := by decide +kernel
theorem dX9_rowsThere_68 : decode cX9_rowsThere 68 = .ok (.invokevirtual 204, 3) := by decide +kernel
theorem dX9_rowsThere_71 : decode cX9_rowsThere 71 = .ok (.iadd, 1) := by decide +kernel
theorem dX9_rowsThere_72 : decode cX9_rowsThere 72 = .ok (.iadd, 1) := by decide +kernel
theorem dX9_rowsThere_73 : decode cX9_rowsThere 73 = .ok (.istore_n 1, 1) := by decide +kernel
theorem dX9_rowsThere_74 : decode cX9_rowsThere 74 = .ok (.iinc 2 1, 3) := by decide +kernel
theorem dX9_rowsThere_77 : decode cX9_rowsThere 77 = .ok (.goto (-38), 3) := by decide +kernel
theorem dX9_rowsThere_80 : decode cX9_rowsThere 80 = .ok (.iload_n 1, 1) := by decide +kernel
theorem dX9_rowsThere_81 : decode cX9_rowsThere 81 = .ok (.ireturn, 1) := by decide +kernel
