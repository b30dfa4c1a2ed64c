theorem dX9_robesThere_6 : decode cX9_robesThere 6 = .ok (.astore_n 2, 1) := by decide +kernel
theorem dX9_robesThere_7 : decode cX9_robesThere 7 = .ok (.aload_n 2, 1) := by decide +kernel
theorem dX9_robesThere_8 : decode cX9_robesThere 8 = .ok (.arraylength, 1) := by decide +kernel
theorem dX9_robesThere_9 : decode cX9_robesThere 9 = .ok (.istore_n 3, 1) := by decide +kernel
theorem dX9_robesThere_10 : decode cX9_robesThere 10 = .ok (.iconst 0, 1) := by decide +kernel
theorem dX9_robesThere_11 : decode cX9_robesThere 11 = .ok (.istore 4, 2) := by decide +kernel
theorem dX9_robesThere_13 : decode cX9_robesThere 13 = .ok (.iload 4, 2) := by decide +kernel
theorem dX9_robesThere_15 : decode cX9_robesThere 15 = .ok (.iload_n 3, 1) := by decide +kernel
theorem dX9_robesThere_16 : decode cX9_robesThere 16 = .ok (.if_icmp .ge 23, 3) := by decide +kernel
theorem dX9_robesThere_19 : decode cX9_robesThere 19 = .ok (.aload_n 2, 1) := by decide +kernel
theorem dX9_robesThere_20 : decode cX9_robesThere 20 = .ok (.iload 4, 2) := by decide +kernel
theorem dX9_robesThere_22 : decode cX9_robesThere 22 = .ok (.aaload, 1) := by decide +kernel
theorem dX9_robesThere_23 : decode cX9_robesThere 23 = .ok (.astore 5, 2) := by decide +kernel
theorem dX9_robesThere_25 : decode cX9_robesThere 25 = .ok (.aload 5, 2) := by decide +kernel
theorem dX9_robesThere_27 : decode cX9_robesThere 27 = .ok (.ifnull 6, 3) := by decide +kernel
theorem dX9_robesThere_30 : decode cX9_robesThere 30 = .ok (.iinc 1 1, 3) := by decide +kernel
theorem dX9_robesThere_33 : decode cX9_robesThere 33 = .ok (.iinc 4 1, 3) := by decide +kernel
theorem dX9_robesThere_36 : decode cX9_robesThere 36 = .ok (.goto (-23), 3) := by decide +kernel
theorem dX9_robesThere_39 : decode cX9_robesThere 39 = .ok (.iload_n 1, 1) := by decide +kernel
theorem dX9_robesThere_40 : decode cX9_robesThere 40 = .ok (.ireturn, 1) := by decide +kernel
theorem dX9_robesLent_0 : decode cX9_robesLent 0 = .ok (.iconst 0, 1) := by decide +kernel
theorem dX9_robesLent_1 : decode cX9_robesLent 1 = .ok (.istore_n 1, 1) := by decide +kernel
theorem dX9_robesLent_2 : decode cX9_robesLent 2 = .ok (.aload_n 0, 1) := by decide +kernel
theorem dX9_robesLent_3 : decode cX9_robesLent 3 = .ok (.getfield 31, 3) := by decide +kernel
theorem dX9_robesLent_6 : decode cX9_robesLent 6 = .ok (.astore_n 2, 1) := by decide +kernel
theorem dX9_robesLent_7 : decode cX9_robesLent 7 = .ok (.aload_n 2, 1) := by decide +kernel
theorem dX9_robesLent_8 : decode cX9_robesLent 8 = .ok (.arraylength, 1) := by decide +kernel
theorem dX9_robesLent_9 : decode cX9_robesLent 9 = .ok (.istore_n 3, 1) := by decide +kernel
theorem dX9_robesLent_10 : decode cX9_robesLent 10 = .ok (.iconst 0, 1) := by decide +kernel
theorem dX9_robesLent_11 : decode cX9_robesLent 11 = .ok (.istore 4, 2) := by decide +kernel
theorem dX9_robesLent_13 : decode cX9_robesLent 13 = .ok (.iload 4, 2) := by decide +kernel
theorem dX9_robesLent_15 : decode cX9_robesLent 15 = .ok (.iload_n 3, 1) := by decide +kernel
theorem dX9_robesLent_16 : decode cX9_robesLent 16 = .ok (.if_icmp .ge 32, 3) := by decide +kernel
theorem dX9_robesLent_19 : decode cX9_robesLent 19 = .ok (.aload_n 2, 1) := by decide +kernel
theorem dX9_robesLent_20 : decode cX9_robesLent 20 = .ok (.iload 4, 2) := by decide +kernel
theorem dX9_robesLent_22 : decode cX9_robesLent 22 = .ok (.aaload, 1) := by decide +kernel
theorem dX9_robesLent_23 : decode cX9_robesLent 23 = .ok (.astore 5, 2) := by decide +kernel
theorem dX9_robesLent_25 : decode cX9_robesLent 25 = .ok (.aload 5, 2) := by decide +kernel
theorem dX9_robesLent_27 : decode cX9_robesLent 27 = .ok (.ifnull 15, 3) := by decide +kernel
theorem dX9_robesLent_30 : decode cX9_robesLent 30 = .ok (.aload 5, 2) := by decide +kernel
theorem dX9_robesLent_32 : decode cX9_robesLent 32 = .ok (.getfield 210, 3) := by decide +kernel
theorem dX9_robesLent_35 : decode cX9_robesLent 35 = .ok (.iconst (-1), 1) := by decide +kernel
theorem dX9_robesLent_36 : decode cX9_robesLent 36 = .ok (.if_icmp .eq 6, 3) := by decide +kernel
theorem dX9_robesLent_39 : decode cX9_robesLent 39 = .ok (.iinc 1 1, 3) := by decide +kernel
theorem dX9_robesLent_42 : decode cX9_robesLent 42 = .ok (.iinc 4 1, 3) := by decide +kernel
theorem dX9_robesLent_45 : decode cX9_robesLent 45 = .ok (.goto (-32), 3) := by decide +kernel
theorem dX9_robesLent_48 : decode cX9_robesLent 48 = .ok (.iload_n 1, 1) := by decide +kernel
theorem dX9_robesLent_49 : decode cX9_robesLent 49 = .ok (.ireturn, 1) := by decide +kernel
theorem dX9_rowsThere_0 : decode cX9_rowsThere 0 = .ok (.iconst 0, 1) := by decide +kernel
theorem dX9_rowsThere_1 : decode cX9_rowsThere 1 = .ok (.istore_n 1, 1) := by decide +kernel
theorem dX9_rowsThere_2 : decode cX9_rowsThere 2 = .ok (.aload_n 0, 1) := by decide +kernel
theorem dX9_rowsThere_3 : decode cX9_rowsThere 3 = .ok (.getfield 25, 3) := by decide +kernel
theorem dX9_rowsThere_6 : decode cX9_rowsThere 6 = .ok (.astore_n 2, 1) := by decide +kernel
theorem dX9_rowsThere_7 : decode cX9_rowsThere 7 = .ok (.aload_n 2, 1) := by decide +kernel
theorem dX9_rowsThere_8 : decode cX9_rowsThere 8 = .ok (.arraylength, 1) := by decide +kernel
theorem dX9_rowsThere_9 : decode cX9_rowsThere 9 = .ok (.istore_n 3, 1) := by decide +kernel
theorem dX9_rowsThere_10 : decode cX9_rowsThere 10 = .ok (.iconst 0, 1) := by decide +kernel
theorem dX9_rowsThere_11 : decode cX9_rowsThere 11 = .ok (.istore 4, 2) := by decide +kernel
theorem dX9_rowsThere_13 : decode cX9_rowsThere 13 = .ok (.iload 4, 2) := by decide +kernel
theorem dX9_rowsThere_15 : decode cX9_rowsThere 15 = .ok (.iload_n 3, 1) := by decide +kernel
theorem dX9_rowsThere_16 : decode cX9_rowsThere 16 = .ok (.if_icmp .ge 29, 3) := by decide +kernel
theorem dX9_rowsThere_19 : decode cX9_rowsThere 19 = .ok (.aload_n 2, 1) := by decide +kernel
theorem dX9_rowsThere_20 : decode cX9_rowsThere 20 = .ok (.iload 4, 2) := by decide +kernel
theorem dX9_rowsThere_22 : decode cX9_rowsThere 22 = .ok (.aaload, 1) := by decide +kernel
theorem dX9_rowsThere_23 : decode cX9_rowsThere 23 = .ok (.astore 5, 2) := by decide +kernel
theorem dX9_rowsThere_25 : decode cX9_rowsThere 25 = .ok (.aload 5, 2) := by decide +kernel
theorem dX9_rowsThere_27 : decode cX9_rowsThere 27 = .ok (.ifnull 12, 3) := by decide +kernel
theorem dX9_rowsThere_30 : decode cX9_rowsThere 30 = .ok (.iload_n 1, 1) := by decide +kernel
theorem dX9_rowsThere_31 : decode cX9_rowsThere 31 = .ok (.aload 5, 2) := by decide +kernel
theorem dX9_rowsThere_33 : decode cX9_rowsThere 33 = .ok (.getfield 126, 3) := by decide +kernel
theorem dX9_rowsThere_36 : decode cX9_rowsThere 36 = .ok (.arraylength, 1) := by decide +kernel
theorem dX9_rowsThere_37 : decode cX9_rowsThere 37 = .ok (.iadd, 1) := by decide +kernel
theorem dX9_rowsThere_38 : decode cX9_rowsThere 38 = .ok (.istore_n 1, 1) := by decide +kernel
theorem dX9_rowsThere_39 : decode cX9_rowsThere 39 = .ok (.iinc 4 1, 3) := by decide +kernel
theorem dX9_rowsThere_42 : decode cX9_rowsThere 42 = .ok (.goto (-29), 3) := by decide +kernel
theorem dX9_rowsThere_45 : decode cX9_rowsThere 45 = .ok (.aload_n 0, 1) := by decide +kernel
theorem dX9_rowsThere_46 : decode cX9_rowsThere 46 = .ok (.getfield 31, 3) := by decide +kernel
theorem dX9_rowsThere_49 : decode cX9_rowsThere 49 = .ok (.astore_n 2, 1) := by decide +kernel
theorem dX9_rowsThere_50 : decode cX9_rowsThere 50 = .ok (.aload_n 2, 1) := by decide +kernel
theorem dX9_rowsThere_51 : decode cX9_rowsThere 51 = .ok (.arraylength, 1) := by decide +kernel
theorem dX9_rowsThere_52 : decode cX9_rowsThere 52 = .ok (.istore_n 3, 1) := by decide +kernel
theorem dX9_rowsThere_53 : decode cX9_rowsThere 53 = .ok (.iconst 0, 1) := by decide +kernel
theorem dX9_rowsThere_54 : decode cX9_rowsThere 54 = .ok (.istore 4, 2) := by decide +kernel
theorem dX9_rowsThere_56 : decode cX9_rowsThere 56 = .ok (.iload 4, 2) := by decide +kernel
theorem dX9_rowsThere_58 : decode cX9_rowsThere 58 = .ok (.iload_n 3, 1) := by decide +kernel
theorem dX9_rowsThere_59 : decode cX9_rowsThere 59 = .ok (.if_icmp .ge 38, 3) := by decide +kernel
theorem dX9_rowsThere_62 : decode cX9_rowsThere 62 = .ok (.aload_n 2, 1) := by decide +kernel
theorem dX9_rowsThere_63 : decode cX9_rowsThere 63 = .ok (.iload 4, 2) := by decide +kernel
theorem dX9_rowsThere_65 : decode cX9_rowsThere 65 = .ok (.aaload, 1) := by decide +kernel
theorem dX9_rowsThere_66 : decode cX9_rowsThere 66 = .ok (.astore 5, 2) := by decide +kernel
theorem dX9_rowsThere_68 : decode cX9_rowsThere 68 = .ok (.aload 5, 2) := by decide +kernel
theorem dX9_rowsThere_70 : decode cX9_rowsThere 70 = .ok (.ifnull 21, 3) := by decide +kernel
theorem dX9_rowsThere_73 : decode cX9_rowsThere 73 = .ok (.iload_n 1, 1) := by decide +kernel
theorem dX9_rowsThere_74 : decode cX9_rowsThere 74 = .ok (.aload 5, 2) := by decide +kernel
theorem dX9_rowsThere_76 : decode cX9_rowsThere 76 = .ok (.getfield 194, 3) := by decide +kernel
theorem dX9_rowsThere_79 : decode cX9_rowsThere 79 = .ok (.getfield 126, 3) := by decide +kernel
theorem dX9_rowsThere_82 : decode cX9_rowsThere 82 = .ok (.arraylength, 1) := by decide +kernel
theorem dX9_rowsThere_83 : decode cX9_rowsThere 83 = .ok (.aload 5, 2) := by decide +kernel
theorem dX9_rowsThere_85 : decode cX9_rowsThere 85 = .ok (.invokevirtual 204, 3) := by decide +kernel
theorem dX9_rowsThere_88 : decode cX9_rowsThere 88 = .ok (.iadd, 1) := by decide +kernel
theorem dX9_rowsThere_89 : decode cX9_rowsThere 89 = .ok (.iadd, 1) := by decide +kernel
theorem dX9_rowsThere_90 : decode cX9_rowsThere 90 = .ok (.istore_n 1, 1) := by decide +kernel
theorem dX9_rowsThere_91 : decode cX9_rowsThere 91 = .ok (.iinc 4 1, 3) := by decide +kernel
theorem dX9_rowsThere_94 : decode cX9_rowsThere 94 = .ok (.goto (-38), 3) := by decide +kernel
theorem dX9_rowsThere_97 : decode cX9_rowsThere 97 = .ok (.iload_n 1, 1) := by decide +kernel
theorem dX9_rowsThere_98 : decode cX9_rowsThere 98 = .ok (.ireturn, 1) := by decide +kernel
