theorem dX5_metersWithin_41 : decode cX5_metersWithin 41 = .ok (.iinc 5 1, 3) := by decide +kernel
theorem dX5_metersWithin_44 : decode cX5_metersWithin 44 = .ok (.goto (-38), 3) := by decide +kernel
theorem dX5_metersWithin_47 : decode cX5_metersWithin 47 = .ok (.iload 4, 2) := by decide +kernel
theorem dX5_metersWithin_49 : decode cX5_metersWithin 49 = .ok (.ireturn, 1) := by decide +kernel
theorem dX5_metersBetween_0 : decode cX5_metersBetween 0 = .ok (.bipush (-6), 2) := by decide +kernel
theorem dX5_metersBetween_2 : decode cX5_metersBetween 2 = .ok (.istore_n 2, 1) := by decide +kernel
theorem dX5_metersBetween_3 : decode cX5_metersBetween 3 = .ok (.iconst 0, 1) := by decide +kernel
theorem dX5_metersBetween_4 : decode cX5_metersBetween 4 = .ok (.istore_n 3, 1) := by decide +kernel
theorem dX5_metersBetween_5 : decode cX5_metersBetween 5 = .ok (.iconst 0, 1) := by decide +kernel
theorem dX5_metersBetween_6 : decode cX5_metersBetween 6 = .ok (.istore 4, 2) := by decide +kernel
theorem dX5_metersBetween_8 : decode cX5_metersBetween 8 = .ok (.iload 4, 2) := by decide +kernel
theorem dX5_metersBetween_10 : decode cX5_metersBetween 10 = .ok (.aload_n 0, 1) := by decide +kernel
theorem dX5_metersBetween_11 : decode cX5_metersBetween 11 = .ok (.getfield 36, 3) := by decide +kernel
theorem dX5_metersBetween_14 : decode cX5_metersBetween 14 = .ok (.if_icmp .ge 49, 3) := by decide +kernel
theorem dX5_metersBetween_17 : decode cX5_metersBetween 17 = .ok (.aload_n 0, 1) := by decide +kernel
theorem dX5_metersBetween_18 : decode cX5_metersBetween 18 = .ok (.getfield 14, 3) := by decide +kernel
theorem dX5_metersBetween_21 : decode cX5_metersBetween 21 = .ok (.iload 4, 2) := by decide +kernel
theorem dX5_metersBetween_23 : decode cX5_metersBetween 23 = .ok (.invokevirtual 43, 3) := by decide +kernel
theorem dX5_metersBetween_26 : decode cX5_metersBetween 26 = .ok (.iload_n 1, 1) := by decide +kernel
theorem dX5_metersBetween_27 : decode cX5_metersBetween 27 = .ok (.if_icmp .ne 30, 3) := by decide +kernel
theorem dX5_metersBetween_30 : decode cX5_metersBetween 30 = .ok (.iload_n 2, 1) := by decide +kernel
theorem dX5_metersBetween_31 : decode cX5_metersBetween 31 = .ok (.bipush (-6), 2) := by decide +kernel
theorem dX5_metersBetween_33 : decode cX5_metersBetween 33 = .ok (.if_icmp .ne 15, 3) := by decide +kernel
theorem dX5_metersBetween_36 : decode cX5_metersBetween 36 = .ok (.aload_n 0, 1) := by decide +kernel
theorem dX5_metersBetween_37 : decode cX5_metersBetween 37 = .ok (.getfield 20, 3) := by decide +kernel
theorem dX5_metersBetween_40 : decode cX5_metersBetween 40 = .ok (.iload 4, 2) := by decide +kernel
theorem dX5_metersBetween_42 : decode cX5_metersBetween 42 = .ok (.invokevirtual 43, 3) := by decide +kernel
theorem dX5_metersBetween_45 : decode cX5_metersBetween 45 = .ok (.goto 4, 3) := by decide +kernel
theorem dX5_metersBetween_48 : decode cX5_metersBetween 48 = .ok (.iload_n 2, 1) := by decide +kernel
theorem dX5_metersBetween_49 : decode cX5_metersBetween 49 = .ok (.istore_n 2, 1) := by decide +kernel
theorem dX5_metersBetween_50 : decode cX5_metersBetween 50 = .ok (.aload_n 0, 1) := by decide +kernel
theorem dX5_metersBetween_51 : decode cX5_metersBetween 51 = .ok (.iload 4, 2) := by decide +kernel
theorem dX5_metersBetween_53 : decode cX5_metersBetween 53 = .ok (.invokevirtual 59, 3) := by decide +kernel
theorem dX5_metersBetween_56 : decode cX5_metersBetween 56 = .ok (.istore_n 3, 1) := by decide +kernel
theorem dX5_metersBetween_57 : decode cX5_metersBetween 57 = .ok (.iinc 4 1, 3) := by decide +kernel
theorem dX5_metersBetween_60 : decode cX5_metersBetween 60 = .ok (.goto (-52), 3) := by decide +kernel
theorem dX5_metersBetween_63 : decode cX5_metersBetween 63 = .ok (.iload_n 2, 1) := by decide +kernel
theorem dX5_metersBetween_64 : decode cX5_metersBetween 64 = .ok (.bipush (-6), 2) := by decide +kernel
theorem dX5_metersBetween_66 : decode cX5_metersBetween 66 = .ok (.if_icmp .ne 7, 3) := by decide +kernel
theorem dX5_metersBetween_69 : decode cX5_metersBetween 69 = .ok (.iconst 0, 1) := by decide +kernel
theorem dX5_metersBetween_70 : decode cX5_metersBetween 70 = .ok (.goto 15, 3) := by decide +kernel
theorem dX5_metersBetween_73 : decode cX5_metersBetween 73 = .ok (.iload_n 3, 1) := by decide +kernel
theorem dX5_metersBetween_74 : decode cX5_metersBetween 74 = .ok (.iload_n 2, 1) := by decide +kernel
theorem dX5_metersBetween_75 : decode cX5_metersBetween 75 = .ok (.isub, 1) := by decide +kernel
theorem dX5_metersBetween_76 : decode cX5_metersBetween 76 = .ok (.aload_n 0, 1) := by decide +kernel
theorem dX5_metersBetween_77 : decode cX5_metersBetween 77 = .ok (.getfield 29, 3) := by decide +kernel
theorem dX5_metersBetween_80 : decode cX5_metersBetween 80 = .ok (.iload_n 1, 1) := by decide +kernel
theorem dX5_metersBetween_81 : decode cX5_metersBetween 81 = .ok (.invokevirtual 43, 3) := by decide +kernel
theorem dX5_metersBetween_84 : decode cX5_metersBetween 84 = .ok (.isub, 1) := by decide +kernel
theorem dX5_metersBetween_85 : decode cX5_metersBetween 85 = .ok (.ireturn, 1) := by decide +kernel
theorem dX5_startOfGap_0 : decode cX5_startOfGap 0 = .ok (.iload_n 1, 1) := by decide +kernel
theorem dX5_startOfGap_1 : decode cX5_startOfGap 1 = .ok (.ifCond .le 27, 3) := by decide +kernel
theorem dX5_startOfGap_4 : decode cX5_startOfGap 4 = .ok (.aload_n 0, 1) := by decide +kernel
theorem dX5_startOfGap_5 : decode cX5_startOfGap 5 = .ok (.getfield 20, 3) := by decide +kernel
theorem dX5_startOfGap_8 : decode cX5_startOfGap 8 = .ok (.iload_n 1, 1) := by decide +kernel
theorem dX5_startOfGap_9 : decode cX5_startOfGap 9 = .ok (.iconst 1, 1) := by decide +kernel
theorem dX5_startOfGap_10 : decode cX5_startOfGap 10 = .ok (.isub, 1) := by decide +kernel
theorem dX5_startOfGap_11 : decode cX5_startOfGap 11 = .ok (.invokevirtual 43, 3) := by decide +kernel
theorem dX5_startOfGap_14 : decode cX5_startOfGap 14 = .ok (.aload_n 0, 1) := by decide +kernel
theorem dX5_startOfGap_15 : decode cX5_startOfGap 15 = .ok (.getfield 23, 3) := by decide +kernel
theorem dX5_startOfGap_18 : decode cX5_startOfGap 18 = .ok (.iload_n 1, 1) := by decide +kernel
theorem dX5_startOfGap_19 : decode cX5_startOfGap 19 = .ok (.iconst 1, 1) := by decide +kernel
theorem dX5_startOfGap_20 : decode cX5_startOfGap 20 = .ok (.isub, 1) := by decide +kernel
theorem dX5_startOfGap_21 : decode cX5_startOfGap 21 = .ok (.invokevirtual 43, 3) := by decide +kernel
theorem dX5_startOfGap_24 : decode cX5_startOfGap 24 = .ok (.iadd, 1) := by decide +kernel
theorem dX5_startOfGap_25 : decode cX5_startOfGap 25 = .ok (.goto 4, 3) := by decide +kernel
theorem dX5_startOfGap_28 : decode cX5_startOfGap 28 = .ok (.iconst 0, 1) := by decide +kernel
theorem dX5_startOfGap_29 : decode cX5_startOfGap 29 = .ok (.ireturn, 1) := by decide +kernel
theorem dX5_lengthOfGap_0 : decode cX5_lengthOfGap 0 = .ok (.iload_n 1, 1) := by decide +kernel
theorem dX5_lengthOfGap_1 : decode cX5_lengthOfGap 1 = .ok (.aload_n 0, 1) := by decide +kernel
theorem dX5_lengthOfGap_2 : decode cX5_lengthOfGap 2 = .ok (.getfield 36, 3) := by decide +kernel
theorem dX5_lengthOfGap_5 : decode cX5_lengthOfGap 5 = .ok (.if_icmp .ge 14, 3) := by decide +kernel
theorem dX5_lengthOfGap_8 : decode cX5_lengthOfGap 8 = .ok (.aload_n 0, 1) := by decide +kernel
theorem dX5_lengthOfGap_9 : decode cX5_lengthOfGap 9 = .ok (.getfield 20, 3) := by decide +kernel
theorem dX5_lengthOfGap_12 : decode cX5_lengthOfGap 12 = .ok (.iload_n 1, 1) := by decide +kernel
theorem dX5_lengthOfGap_13 : decode cX5_lengthOfGap 13 = .ok (.invokevirtual 43, 3) := by decide +kernel
theorem dX5_lengthOfGap_16 : decode cX5_lengthOfGap 16 = .ok (.goto 6, 3) := by decide +kernel
theorem dX5_lengthOfGap_19 : decode cX5_lengthOfGap 19 = .ok (.sipush 10000, 3) := by decide +kernel
theorem dX5_lengthOfGap_22 : decode cX5_lengthOfGap 22 = .ok (.aload_n 0, 1) := by decide +kernel
theorem dX5_lengthOfGap_23 : decode cX5_lengthOfGap 23 = .ok (.iload_n 1, 1) := by decide +kernel
theorem dX5_lengthOfGap_24 : decode cX5_lengthOfGap 24 = .ok (.invokevirtual 94, 3) := by decide +kernel
theorem dX5_lengthOfGap_27 : decode cX5_lengthOfGap 27 = .ok (.isub, 1) := by decide +kernel
theorem dX5_lengthOfGap_28 : decode cX5_lengthOfGap 28 = .ok (.ireturn, 1) := by decide +kernel
theorem dX5_holes_0 : decode cX5_holes 0 = .ok (.iconst 0, 1) := by decide +kernel
theorem dX5_holes_1 : decode cX5_holes 1 = .ok (.istore_n 1, 1) := by decide +kernel
theorem dX5_holes_2 : decode cX5_holes 2 = .ok (.iconst 0, 1) := by decide +kernel
theorem dX5_holes_3 : decode cX5_holes 3 = .ok (.istore_n 2, 1) := by decide +kernel
theorem dX5_holes_4 : decode cX5_holes 4 = .ok (.iload_n 2, 1) := by decide +kernel
theorem dX5_holes_5 : decode cX5_holes 5 = .ok (.aload_n 0, 1) := by decide +kernel
theorem dX5_holes_6 : decode cX5_holes 6 = .ok (.getfield 36, 3) := by decide +kernel
theorem dX5_holes_9 : decode cX5_holes 9 = .ok (.if_icmp .gt 20, 3) := by decide +kernel
theorem dX5_holes_12 : decode cX5_holes 12 = .ok (.aload_n 0, 1) := by decide +kernel
theorem dX5_holes_13 : decode cX5_holes 13 = .ok (.iload_n 2, 1) := by decide +kernel
theorem dX5_holes_14 : decode cX5_holes 14 = .ok (.invokevirtual 97, 3) := by decide +kernel
theorem dX5_holes_17 : decode cX5_holes 17 = .ok (.ifCond .le 6, 3) := by decide +kernel
theorem dX5_holes_20 : decode cX5_holes 20 = .ok (.iinc 1 1, 3) := by decide +kernel
theorem dX5_holes_23 : decode cX5_holes 23 = .ok (.iinc 2 1, 3) := by decide +kernel
theorem dX5_holes_26 : decode cX5_holes 26 = .ok (.goto (-22), 3) := by decide +kernel
theorem dX5_holes_29 : decode cX5_holes 29 = .ok (.iload_n 1, 1) := by decide +kernel
theorem dX5_holes_30 : decode cX5_holes 30 = .ok (.ireturn, 1) := by decide +kernel
theorem dX5_longestHole_0 : decode cX5_longestHole 0 = .ok (.iconst 0, 1) := by decide +kernel
theorem dX5_longestHole_1 : decode cX5_longestHole 1 = .ok (.istore_n 1, 1) := by decide +kernel
theorem dX5_longestHole_2 : decode cX5_longestHole 2 = .ok (.iconst 0, 1) := by decide +kernel
theorem dX5_longestHole_3 : decode cX5_longestHole 3 = .ok (.istore_n 2, 1) := by decide +kernel
theorem dX5_longestHole_4 : decode cX5_longestHole 4 = .ok (.iload_n 2, 1) := by decide +kernel
theorem dX5_longestHole_5 : decode cX5_longestHole 5 = .ok (.aload_n 0, 1) := by decide +kernel
theorem dX5_longestHole_6 : decode cX5_longestHole 6 = .ok (.getfield 36, 3) := by decide +kernel
theorem dX5_longestHole_9 : decode cX5_longestHole 9 = .ok (.if_icmp .gt 19, 3) := by decide +kernel
theorem dX5_longestHole_12 : decode cX5_longestHole 12 = .ok (.iload_n 1, 1) := by decide +kernel
theorem dX5_longestHole_13 : decode cX5_longestHole 13 = .ok (.aload_n 0, 1) := by decide +kernel
theorem dX5_longestHole_14 : decode cX5_longestHole 14 = .ok (.iload_n 2, 1) := by decide +kernel
theorem dX5_longestHole_15 : decode cX5_longestHole 15 = .ok (.invokevirtual 97, 3) := by decide +kernel
theorem dX5_longestHole_18 : decode cX5_longestHole 18 = .ok (.invokestatic 72, 3) := by decide +kernel
theorem dX5_longestHole_21 : decode cX5_longestHole 21 = .ok (.istore_n 1, 1) := by decide +kernel
theorem dX5_longestHole_22 : decode cX5_longestHole 22 = .ok (.iinc 2 1, 3) := by decide +kernel
theorem dX5_longestHole_25 : decode cX5_longestHole 25 = .ok (.goto (-21), 3) := by decide +kernel
theorem dX5_longestHole_28 : decode cX5_longestHole 28 = .ok (.iload_n 1, 1) := by decide +kernel
theorem dX5_longestHole_29 : decode cX5_longestHole 29 = .ok (.ireturn, 1) := by decide +kernel
theorem dX5_gapFor_0 : decode cX5_gapFor 0 = .ok (.bipush (-6), 2) := by decide +kernel
theorem dX5_gapFor_2 : decode cX5_gapFor 2 = .ok (.istore_n 3, 1) := by decide +kernel
theorem dX5_gapFor_3 : decode cX5_gapFor 3 = .ok (.iconst 0, 1) := by decide +kernel
theorem dX5_gapFor_4 : decode cX5_gapFor 4 = .ok (.istore 4, 2) := by decide +kernel
theorem dX5_gapFor_6 : decode cX5_gapFor 6 = .ok (.iconst 0, 1) := by decide +kernel
theorem dX5_gapFor_7 : decode cX5_gapFor 7 = .ok (.istore 5, 2) := by decide +kernel
theorem dX5_gapFor_9 : decode cX5_gapFor 9 = .ok (.iload 5, 2) := by decide +kernel
theorem dX5_gapFor_11 : decode cX5_gapFor 11 = .ok (.aload_n 0, 1) := by decide +kernel
theorem dX5_gapFor_12 : decode cX5_gapFor 12 = .ok (.getfield 36, 3) := by decide +kernel
theorem dX5_gapFor_15 : decode cX5_gapFor 15 = .ok (.if_icmp .gt 47, 3) := by decide +kernel
theorem dX5_gapFor_18 : decode cX5_gapFor 18 = .ok (.aload_n 0, 1) := by decide +kernel
theorem dX5_gapFor_19 : decode cX5_gapFor 19 = .ok (.iload 5, 2) := by decide +kernel
theorem dX5_gapFor_21 : decode cX5_gapFor 21 = .ok (.invokevirtual 97, 3) := by decide +kernel
theorem dX5_gapFor_24 : decode cX5_gapFor 24 = .ok (.istore 6, 2) := by decide +kernel
theorem dX5_gapFor_26 : decode cX5_gapFor 26 = .ok (.iload 6, 2) := by decide +kernel
theorem dX5_gapFor_28 : decode cX5_gapFor 28 = .ok (.iload_n 1, 1) := by decide +kernel
theorem dX5_gapFor_29 : decode cX5_gapFor 29 = .ok (.if_icmp .lt 27, 3) := by decide +kernel
theorem dX5_gapFor_32 : decode cX5_gapFor 32 = .ok (.iload_n 3, 1) := by decide +kernel
theorem dX5_gapFor_33 : decode cX5_gapFor 33 = .ok (.bipush (-6), 2) := by decide +kernel
theorem dX5_gapFor_35 : decode cX5_gapFor 35 = .ok (.if_icmp .eq 14, 3) := by decide +kernel
theorem dX5_gapFor_38 : decode cX5_gapFor 38 = .ok (.iload 6, 2) := by decide +kernel
theorem dX5_gapFor_40 : decode cX5_gapFor 40 = .ok (.iload 4, 2) := by decide +kernel
theorem dX5_gapFor_42 : decode cX5_gapFor 42 = .ok (.iload_n 2, 1) := by decide +kernel
theorem dX5_gapFor_43 : decode cX5_gapFor 43 = .ok (.invokestatic 100, 3) := by decide +kernel
theorem dX5_gapFor_46 : decode cX5_gapFor 46 = .ok (.ifCond .eq 10, 3) := by decide +kernel
theorem dX5_gapFor_49 : decode cX5_gapFor 49 = .ok (.iload 5, 2) := by decide +kernel
theorem dX5_gapFor_51 : decode cX5_gapFor 51 = .ok (.istore_n 3, 1) := by decide +kernel
theorem dX5_gapFor_52 : decode cX5_gapFor 52 = .ok (.iload 6, 2) := by decide +kernel
theorem dX5_gapFor_54 : decode cX5_gapFor 54 = .ok (.istore 4, 2) := by decide +kernel
theorem dX5_gapFor_56 : decode cX5_gapFor 56 = .ok (.iinc 5 1, 3) := by decide +kernel
theorem dX5_gapFor_59 : decode cX5_gapFor 59 = .ok (.goto (-50), 3) := by decide +kernel
theorem dX5_gapFor_62 : decode cX5_gapFor 62 = .ok (.iload_n 3, 1) := by decide +kernel
theorem dX5_gapFor_63 : decode cX5_gapFor 63 = .ok (.ireturn, 1) := by decide +kernel
theorem dX5_isBetter_0 : decode cX5_isBetter 0 = .ok (.iload_n 2, 1) := by decide +kernel
theorem dX5_isBetter_1 : decode cX5_isBetter 1 = .ok (.iconst 1, 1) := by decide +kernel
theorem dX5_isBetter_2 : decode cX5_isBetter 2 = .ok (.if_icmp .ne 8, 3) := by decide +kernel
theorem dX5_isBetter_5 : decode cX5_isBetter 5 = .ok (.iload_n 0, 1) := by decide +kernel
theorem dX5_isBetter_6 : decode cX5_isBetter 6 = .ok (.iload_n 1, 1) := by decide +kernel
theorem dX5_isBetter_7 : decode cX5_isBetter 7 = .ok (.if_icmp .lt 13, 3) := by decide +kernel
theorem dX5_isBetter_10 : decode cX5_isBetter 10 = .ok (.iload_n 2, 1) := by decide +kernel
theorem dX5_isBetter_11 : decode cX5_isBetter 11 = .ok (.iconst 2, 1) := by decide +kernel
theorem dX5_isBetter_12 : decode cX5_isBetter 12 = .ok (.if_icmp .ne 12, 3) := by decide +kernel
theorem dX5_isBetter_15 : decode cX5_isBetter 15 = .ok (.iload_n 0, 1) := by decide +kernel
theorem dX5_isBetter_16 : decode cX5_isBetter 16 = .ok (.iload_n 1, 1) := by decide +kernel
theorem dX5_isBetter_17 : decode cX5_isBetter 17 = .ok (.if_icmp .le 7, 3) := by decide +kernel
theorem dX5_isBetter_20 : decode cX5_isBetter 20 = .ok (.iconst 1, 1) := by decide +kernel
theorem dX5_isBetter_21 : decode cX5_isBetter 21 = .ok (.goto 4, 3) := by decide +kernel
theorem dX5_isBetter_24 : decode cX5_isBetter 24 = .ok (.iconst 0, 1) := by decide +kernel
theorem dX5_isBetter_25 : decode cX5_isBetter 25 = .ok (.ireturn, 1) := by decide +kernel
theorem dX6_init_0 : decode cX6_init 0 = .ok (.aload_n 0, 1) := by decide +kernel
theorem dX6_init_1 : decode cX6_init 1 = .ok (.invokespecial 3, 3) := by decide +kernel
theorem dX6_init_4 : decode cX6_init 4 = .ok (.aload_n 0, 1) := by decide +kernel
theorem dX6_init_5 : decode cX6_init 5 = .ok (.new 9, 3) := by decide +kernel
theorem dX6_init_8 : decode cX6_init 8 = .ok (.dup, 1) := by decide +kernel
theorem dX6_init_9 : decode cX6_init 9 = .ok (.invokespecial 11, 3) := by decide +kernel
theorem dX6_init_12 : decode cX6_init 12 = .ok (.putfield 12, 3) := by decide +kernel
theorem dX6_init_15 : decode cX6_init 15 = .ok (.aload_n 0, 1) := by decide +kernel
theorem dX6_init_16 : decode cX6_init 16 = .ok (.new 9, 3) := by decide +kernel
theorem dX6_init_19 : decode cX6_init 19 = .ok (.dup, 1) := by decide +kernel
theorem dX6_init_20 : decode cX6_init 20 = .ok (.invokespecial 11, 3) := by decide +kernel
theorem dX6_init_23 : decode cX6_init 23 = .ok (.putfield 16, 3) := by decide +kernel
theorem dX6_init_26 : decode cX6_init 26 = .ok (.aload_n 0, 1) := by decide +kernel
theorem dX6_init_27 : decode cX6_init 27 = .ok (.new 19, 3) := by decide +kernel
theorem dX6_init_30 : decode cX6_init 30 = .ok (.dup, 1) := by decide +kernel
theorem dX6_init_31 : decode cX6_init 31 = .ok (.invokespecial 21, 3) := by decide +kernel
theorem dX6_init_34 : decode cX6_init 34 = .ok (.putfield 22, 3) := by decide +kernel
theorem dX6_init_37 : decode cX6_init 37 = .ok (.aload_n 0, 1) := by decide +kernel
theorem dX6_init_38 : decode cX6_init 38 = .ok (.new 26, 3) := by decide +kernel
theorem dX6_init_41 : decode cX6_init 41 = .ok (.dup, 1) := by decide +kernel
theorem dX6_init_42 : decode cX6_init 42 = .ok (.invokespecial 28, 3) := by decide +kernel
theorem dX6_init_45 : decode cX6_init 45 = .ok (.putfield 29, 3) := by decide +kernel
theorem dX6_init_48 : decode cX6_init 48 = .ok (.aload_n 0, 1) := by decide +kernel
theorem dX6_init_49 : decode cX6_init 49 = .ok (.iconst 2, 1) := by decide +kernel
theorem dX6_init_50 : decode cX6_init 50 = .ok (.anewarray 9, 3) := by decide +kernel
theorem dX6_init_53 : decode cX6_init 53 = .ok (.putfield 33, 3) := by decide +kernel
theorem dX6_init_56 : decode cX6_init 56 = .ok (.aload_n 0, 1) := by decide +kernel
theorem dX6_init_57 : decode cX6_init 57 = .ok (.new 37, 3) := by decide +kernel
theorem dX6_init_60 : decode cX6_init 60 = .ok (.dup, 1) := by decide +kernel
theorem dX6_init_61 : decode cX6_init 61 = .ok (.invokespecial 39, 3) := by decide +kernel
theorem dX6_init_64 : decode cX6_init 64 = .ok (.putfield 40, 3) := by decide +kernel
theorem dX6_init_67 : decode cX6_init 67 = .ok (.return_, 1) := by decide +kernel
theorem dX6_set_0 : decode cX6_set 0 = .ok (.aload_n 0, 1) := by decide +kernel
theorem dX6_set_1 : decode cX6_set 1 = .ok (.getfield 29, 3) := by decide +kernel
theorem dX6_set_4 : decode cX6_set 4 = .ok (.aload_n 0, 1) := by decide +kernel
theorem dX6_set_5 : decode cX6_set 5 = .ok (.getfield 12, 3) := by decide +kernel
theorem dX6_set_8 : decode cX6_set 8 = .ok (.invokevirtual 44, 3) := by decide +kernel
theorem dX6_set_11 : decode cX6_set 11 = .ok (.aload_n 0, 1) := by decide +kernel
theorem dX6_set_12 : decode cX6_set 12 = .ok (.getfield 29, 3) := by decide +kernel
theorem dX6_set_15 : decode cX6_set 15 = .ok (.aload_n 0, 1) := by decide +kernel
theorem dX6_set_16 : decode cX6_set 16 = .ok (.iload_n 1, 1) := by decide +kernel
theorem dX6_set_17 : decode cX6_set 17 = .ok (.iload_n 2, 1) := by decide +kernel
theorem dX6_set_18 : decode cX6_set 18 = .ok (.invokevirtual 48, 3) := by decide +kernel
theorem dX6_set_21 : decode cX6_set 21 = .ok (.invokevirtual 52, 3) := by decide +kernel
theorem dX6_set_24 : decode cX6_set 24 = .ok (.ireturn, 1) := by decide +kernel
theorem dX6_owner_0 : decode cX6_owner 0 = .ok (.aload_n 0, 1) := by decide +kernel
theorem dX6_owner_1 : decode cX6_owner 1 = .ok (.getfield 29, 3) := by decide +kernel
theorem dX6_owner_4 : decode cX6_owner 4 = .ok (.aload_n 0, 1) := by decide +kernel
theorem dX6_owner_5 : decode cX6_owner 5 = .ok (.getfield 12, 3) := by decide +kernel
theorem dX6_owner_8 : decode cX6_owner 8 = .ok (.invokevirtual 44, 3) := by decide +kernel
theorem dX6_owner_11 : decode cX6_owner 11 = .ok (.aload_n 0, 1) := by decide +kernel
theorem dX6_owner_12 : decode cX6_owner 12 = .ok (.getfield 29, 3) := by decide +kernel
theorem dX6_owner_15 : decode cX6_owner 15 = .ok (.aload_n 0, 1) := by decide +kernel
theorem dX6_owner_16 : decode cX6_owner 16 = .ok (.iload_n 1, 1) := by decide +kernel
theorem dX6_owner_17 : decode cX6_owner 17 = .ok (.invokevirtual 56, 3) := by decide +kernel
theorem dX6_owner_20 : decode cX6_owner 20 = .ok (.invokevirtual 52, 3) := by decide +kernel
theorem dX6_owner_23 : decode cX6_owner 23 = .ok (.ireturn, 1) := by decide +kernel
theorem dX6_pay_0 : decode cX6_pay 0 = .ok (.aload_n 0, 1) := by decide +kernel
theorem dX6_pay_1 : decode cX6_pay 1 = .ok (.getfield 29, 3) := by decide +kernel
theorem dX6_pay_4 : decode cX6_pay 4 = .ok (.aload_n 0, 1) := by decide +kernel
theorem dX6_pay_5 : decode cX6_pay 5 = .ok (.getfield 12, 3) := by decide +kernel
theorem dX6_pay_8 : decode cX6_pay 8 = .ok (.invokevirtual 44, 3) := by decide +kernel
theorem dX6_pay_11 : decode cX6_pay 11 = .ok (.aload_n 0, 1) := by decide +kernel
theorem dX6_pay_12 : decode cX6_pay 12 = .ok (.getfield 29, 3) := by decide +kernel
theorem dX6_pay_15 : decode cX6_pay 15 = .ok (.aload_n 0, 1) := by decide +kernel
theorem dX6_pay_16 : decode cX6_pay 16 = .ok (.iload_n 1, 1) := by decide +kernel
theorem dX6_pay_17 : decode cX6_pay 17 = .ok (.iload_n 2, 1) := by decide +kernel
theorem dX6_pay_18 : decode cX6_pay 18 = .ok (.invokevirtual 59, 3) := by decide +kernel
theorem dX6_pay_21 : decode cX6_pay 21 = .ok (.invokevirtual 52, 3) := by decide +kernel
theorem dX6_pay_24 : decode cX6_pay 24 = .ok (.ireturn, 1) := by decide +kernel
theorem dX6_give_0 : decode cX6_give 0 = .ok (.aload_n 0, 1) := by decide +kernel
theorem dX6_give_1 : decode cX6_give 1 = .ok (.getfield 29, 3) := by decide +kernel
theorem dX6_give_4 : decode cX6_give 4 = .ok (.aload_n 0, 1) := by decide +kernel
theorem dX6_give_5 : decode cX6_give 5 = .ok (.getfield 12, 3) := by decide +kernel
theorem dX6_give_8 : decode cX6_give 8 = .ok (.invokevirtual 44, 3) := by decide +kernel
theorem dX6_give_11 : decode cX6_give 11 = .ok (.aload_n 0, 1) := by decide +kernel
theorem dX6_give_12 : decode cX6_give 12 = .ok (.getfield 29, 3) := by decide +kernel
theorem dX6_give_15 : decode cX6_give 15 = .ok (.aload_n 0, 1) := by decide +kernel
theorem dX6_give_16 : decode cX6_give 16 = .ok (.iload_n 1, 1) := by decide +kernel
theorem dX6_give_17 : decode cX6_give 17 = .ok (.iload_n 2, 1) := by decide +kernel
theorem dX6_give_18 : decode cX6_give 18 = .ok (.iload_n 3, 1) := by decide +kernel
theorem dX6_give_19 : decode cX6_give 19 = .ok (.invokevirtual 62, 3) := by decide +kernel
theorem dX6_give_22 : decode cX6_give 22 = .ok (.invokevirtual 52, 3) := by decide +kernel
theorem dX6_give_25 : decode cX6_give 25 = .ok (.ireturn, 1) := by decide +kernel
theorem dX6_free_0 : decode cX6_free 0 = .ok (.aload_n 0, 1) := by decide +kernel
theorem dX6_free_1 : decode cX6_free 1 = .ok (.getfield 29, 3) := by decide +kernel
theorem dX6_free_4 : decode cX6_free 4 = .ok (.aload_n 0, 1) := by decide +kernel
theorem dX6_free_5 : decode cX6_free 5 = .ok (.getfield 12, 3) := by decide +kernel
theorem dX6_free_8 : decode cX6_free 8 = .ok (.invokevirtual 44, 3) := by decide +kernel
theorem dX6_free_11 : decode cX6_free 11 = .ok (.aload_n 0, 1) := by decide +kernel
theorem dX6_free_12 : decode cX6_free 12 = .ok (.getfield 29, 3) := by decide +kernel
theorem dX6_free_15 : decode cX6_free 15 = .ok (.aload_n 0, 1) := by decide +kernel
theorem dX6_free_16 : decode cX6_free 16 = .ok (.iload_n 1, 1) := by decide +kernel
theorem dX6_free_17 : decode cX6_free 17 = .ok (.iload_n 2, 1) := by decide +kernel
theorem dX6_free_18 : decode cX6_free 18 = .ok (.invokevirtual 66, 3) := by decide +kernel
theorem dX6_free_21 : decode cX6_free 21 = .ok (.invokevirtual 52, 3) := by decide +kernel
theorem dX6_free_24 : decode cX6_free 24 = .ok (.ireturn, 1) := by decide +kernel
theorem dX6_grab_0 : decode cX6_grab 0 = .ok (.aload_n 0, 1) := by decide +kernel
theorem dX6_grab_1 : decode cX6_grab 1 = .ok (.getfield 29, 3) := by decide +kernel
theorem dX6_grab_4 : decode cX6_grab 4 = .ok (.aload_n 0, 1) := by decide +kernel
theorem dX6_grab_5 : decode cX6_grab 5 = .ok (.getfield 12, 3) := by decide +kernel
theorem dX6_grab_8 : decode cX6_grab 8 = .ok (.invokevirtual 44, 3) := by decide +kernel
theorem dX6_grab_11 : decode cX6_grab 11 = .ok (.aload_n 0, 1) := by decide +kernel
theorem dX6_grab_12 : decode cX6_grab 12 = .ok (.getfield 29, 3) := by decide +kernel
theorem dX6_grab_15 : decode cX6_grab 15 = .ok (.aload_n 0, 1) := by decide +kernel
theorem dX6_grab_16 : decode cX6_grab 16 = .ok (.iload_n 1, 1) := by decide +kernel
theorem dX6_grab_17 : decode cX6_grab 17 = .ok (.iload_n 2, 1) := by decide +kernel
theorem dX6_grab_18 : decode cX6_grab 18 = .ok (.invokevirtual 69, 3) := by decide +kernel
theorem dX6_grab_21 : decode cX6_grab 21 = .ok (.invokevirtual 52, 3) := by decide +kernel
theorem dX6_grab_24 : decode cX6_grab 24 = .ok (.ireturn, 1) := by decide +kernel
theorem dX6_inherit_0 : decode cX6_inherit 0 = .ok (.aload_n 0, 1) := by decide +kernel
theorem dX6_inherit_1 : decode cX6_inherit 1 = .ok (.getfield 29, 3) := by decide +kernel
theorem dX6_inherit_4 : decode cX6_inherit 4 = .ok (.aload_n 0, 1) := by decide +kernel
theorem dX6_inherit_5 : decode cX6_inherit 5 = .ok (.getfield 12, 3) := by decide +kernel
theorem dX6_inherit_8 : decode cX6_inherit 8 = .ok (.invokevirtual 44, 3) := by decide +kernel
theorem dX6_inherit_11 : decode cX6_inherit 11 = .ok (.aload_n 0, 1) := by decide +kernel
theorem dX6_inherit_12 : decode cX6_inherit 12 = .ok (.getfield 29, 3) := by decide +kernel
theorem dX6_inherit_15 : decode cX6_inherit 15 = .ok (.aload_n 0, 1) := by decide +kernel
theorem dX6_inherit_16 : decode cX6_inherit 16 = .ok (.iload_n 1, 1) := by decide +kernel
theorem dX6_inherit_17 : decode cX6_inherit 17 = .ok (.iload_n 2, 1) := by decide +kernel
theorem dX6_inherit_18 : decode cX6_inherit 18 = .ok (.invokevirtual 72, 3) := by decide +kernel
theorem dX6_inherit_21 : decode cX6_inherit 21 = .ok (.invokevirtual 52, 3) := by decide +kernel
theorem dX6_inherit_24 : decode cX6_inherit 24 = .ok (.ireturn, 1) := by decide +kernel
theorem dX6_transfer_0 : decode cX6_transfer 0 = .ok (.aload_n 0, 1) := by decide +kernel
theorem dX6_transfer_1 : decode cX6_transfer 1 = .ok (.getfield 29, 3) := by decide +kernel
theorem dX6_transfer_4 : decode cX6_transfer 4 = .ok (.aload_n 0, 1) := by decide +kernel
theorem dX6_transfer_5 : decode cX6_transfer 5 = .ok (.getfield 12, 3) := by decide +kernel
theorem dX6_transfer_8 : decode cX6_transfer 8 = .ok (.invokevirtual 44, 3) := by decide +kernel
theorem dX6_transfer_11 : decode cX6_transfer 11 = .ok (.aload_n 0, 1) := by decide +kernel
theorem dX6_transfer_12 : decode cX6_transfer 12 = .ok (.getfield 29, 3) := by decide +kernel
theorem dX6_transfer_15 : decode cX6_transfer 15 = .ok (.aload_n 0, 1) := by decide +kernel
theorem dX6_transfer_16 : decode cX6_transfer 16 = .ok (.iload_n 1, 1) := by decide +kernel
theorem dX6_transfer_17 : decode cX6_transfer 17 = .ok (.iload_n 2, 1) := by decide +kernel
theorem dX6_transfer_18 : decode cX6_transfer 18 = .ok (.iload_n 3, 1) := by decide +kernel
theorem dX6_transfer_19 : decode cX6_transfer 19 = .ok (.iload 4, 2) := by decide +kernel
theorem dX6_transfer_21 : decode cX6_transfer 21 = .ok (.iload 5, 2) := by decide +kernel
theorem dX6_transfer_23 : decode cX6_transfer 23 = .ok (.invokevirtual 75, 3) := by decide +kernel
theorem dX6_transfer_26 : decode cX6_transfer 26 = .ok (.invokevirtual 52, 3) := by decide +kernel
theorem dX6_transfer_29 : decode cX6_transfer 29 = .ok (.ireturn, 1) := by decide +kernel
theorem dX6_drop_0 : decode cX6_drop 0 = .ok (.aload_n 0, 1) := by decide +kernel
theorem dX6_drop_1 : decode cX6_drop 1 = .ok (.getfield 29, 3) := by decide +kernel
theorem dX6_drop_4 : decode cX6_drop 4 = .ok (.aload_n 0, 1) := by decide +kernel
theorem dX6_drop_5 : decode cX6_drop 5 = .ok (.getfield 12, 3) := by decide +kernel
theorem dX6_drop_8 : decode cX6_drop 8 = .ok (.invokevirtual 44, 3) := by decide +kernel
theorem dX6_drop_11 : decode cX6_drop 11 = .ok (.aload_n 0, 1) := by decide +kernel
theorem dX6_drop_12 : decode cX6_drop 12 = .ok (.getfield 29, 3) := by decide +kernel
theorem dX6_drop_15 : decode cX6_drop 15 = .ok (.aload_n 0, 1) := by decide +kernel
theorem dX6_drop_16 : decode cX6_drop 16 = .ok (.invokevirtual 79, 3) := by decide +kernel
theorem dX6_drop_19 : decode cX6_drop 19 = .ok (.invokevirtual 52, 3) := by decide +kernel
theorem dX6_drop_22 : decode cX6_drop 22 = .ok (.ireturn, 1) := by decide +kernel
theorem dX6_close_0 : decode cX6_close 0 = .ok (.aload_n 0, 1) := by decide +kernel
theorem dX6_close_1 : decode cX6_close 1 = .ok (.getfield 29, 3) := by decide +kernel
theorem dX6_close_4 : decode cX6_close 4 = .ok (.aload_n 0, 1) := by decide +kernel
theorem dX6_close_5 : decode cX6_close 5 = .ok (.getfield 12, 3) := by decide +kernel
theorem dX6_close_8 : decode cX6_close 8 = .ok (.invokevirtual 44, 3) := by decide +kernel
theorem dX6_close_11 : decode cX6_close 11 = .ok (.aload_n 0, 1) := by decide +kernel
theorem dX6_close_12 : decode cX6_close 12 = .ok (.getfield 29, 3) := by decide +kernel
theorem dX6_close_15 : decode cX6_close 15 = .ok (.aload_n 0, 1) := by decide +kernel
theorem dX6_close_16 : decode cX6_close 16 = .ok (.invokevirtual 83, 3) := by decide +kernel
theorem dX6_close_19 : decode cX6_close 19 = .ok (.invokevirtual 52, 3) := by decide +kernel
theorem dX6_close_22 : decode cX6_close 22 = .ok (.ireturn, 1) := by decide +kernel
theorem dX6_failing_0 : decode cX6_failing 0 = .ok (.aload_n 0, 1) := by decide +kernel
theorem dX6_failing_1 : decode cX6_failing 1 = .ok (.invokevirtual 86, 3) := by decide +kernel
theorem dX6_failing_4 : decode cX6_failing 4 = .ok (.ireturn, 1) := by decide +kernel
theorem dX6_days_0 : decode cX6_days 0 = .ok (.aload_n 0, 1) := by decide +kernel
theorem dX6_days_1 : decode cX6_days 1 = .ok (.getfield 29, 3) := by decide +kernel
theorem dX6_days_4 : decode cX6_days 4 = .ok (.aload_n 0, 1) := by decide +kernel
theorem dX6_days_5 : decode cX6_days 5 = .ok (.getfield 12, 3) := by decide +kernel
theorem dX6_days_8 : decode cX6_days 8 = .ok (.invokevirtual 44, 3) := by decide +kernel
theorem dX6_days_11 : decode cX6_days 11 = .ok (.aload_n 0, 1) := by decide +kernel
theorem dX6_days_12 : decode cX6_days 12 = .ok (.getfield 29, 3) := by decide +kernel
theorem dX6_days_15 : decode cX6_days 15 = .ok (.aload_n 0, 1) := by decide +kernel
theorem dX6_days_16 : decode cX6_days 16 = .ok (.iload_n 1, 1) := by decide +kernel
theorem dX6_days_17 : decode cX6_days 17 = .ok (.invokevirtual 89, 3) := by decide +kernel
theorem dX6_days_20 : decode cX6_days 20 = .ok (.invokevirtual 52, 3) := by decide +kernel
theorem dX6_days_23 : decode cX6_days 23 = .ok (.ireturn, 1) := by decide +kernel
theorem dX6_ofRange_0 : decode cX6_ofRange 0 = .ok (.aload_n 0, 1) := by decide +kernel
theorem dX6_ofRange_1 : decode cX6_ofRange 1 = .ok (.getfield 12, 3) := by decide +kernel
theorem dX6_ofRange_4 : decode cX6_ofRange 4 = .ok (.getfield 92, 3) := by decide +kernel
theorem dX6_ofRange_7 : decode cX6_ofRange 7 = .ok (.iload_n 1, 1) := by decide +kernel
theorem dX6_ofRange_8 : decode cX6_ofRange 8 = .ok (.invokevirtual 95, 3) := by decide +kernel
theorem dX6_ofRange_11 : decode cX6_ofRange 11 = .ok (.ifCond .ne 5, 3) := by decide +kernel
theorem dX6_ofRange_14 : decode cX6_ofRange 14 = .ok (.iconst (-1), 1) := by decide +kernel
theorem dX6_ofRange_15 : decode cX6_ofRange 15 = .ok (.ireturn, 1) := by decide +kernel
theorem dX6_ofRange_16 : decode cX6_ofRange 16 = .ok (.iload_n 2, 1) := by decide +kernel
theorem dX6_ofRange_17 : decode cX6_ofRange 17 = .ok (.tableswitch 72 0 2 #[27, 42, 57], 27) := by decide +kernel
theorem dX6_ofRange_44 : decode cX6_ofRange 44 = .ok (.aload_n 0, 1) := by decide +kernel
theorem dX6_ofRange_45 : decode cX6_ofRange 45 = .ok (.getfield 12, 3) := by decide +kernel
theorem dX6_ofRange_48 : decode cX6_ofRange 48 = .ok (.getfield 92, 3) := by decide +kernel
theorem dX6_ofRange_51 : decode cX6_ofRange 51 = .ok (.getfield 99, 3) := by decide +kernel
theorem dX6_ofRange_54 : decode cX6_ofRange 54 = .ok (.iload_n 1, 1) := by decide +kernel
theorem dX6_ofRange_55 : decode cX6_ofRange 55 = .ok (.invokevirtual 103, 3) := by decide +kernel
theorem dX6_ofRange_58 : decode cX6_ofRange 58 = .ok (.ireturn, 1) := by decide +kernel
theorem dX6_ofRange_59 : decode cX6_ofRange 59 = .ok (.aload_n 0, 1) := by decide +kernel
theorem dX6_ofRange_60 : decode cX6_ofRange 60 = .ok (.getfield 12, 3) := by decide +kernel
theorem dX6_ofRange_63 : decode cX6_ofRange 63 = .ok (.getfield 92, 3) := by decide +kernel
theorem dX6_ofRange_66 : decode cX6_ofRange 66 = .ok (.getfield 108, 3) := by decide +kernel
theorem dX6_ofRange_69 : decode cX6_ofRange 69 = .ok (.iload_n 1, 1) := by decide +kernel
theorem dX6_ofRange_70 : decode cX6_ofRange 70 = .ok (.invokevirtual 103, 3) := by decide +kernel
theorem dX6_ofRange_73 : decode cX6_ofRange 73 = .ok (.ireturn, 1) := by decide +kernel
theorem dX6_ofRange_74 : decode cX6_ofRange 74 = .ok (.aload_n 0, 1) := by decide +kernel
theorem dX6_ofRange_75 : decode cX6_ofRange 75 = .ok (.getfield 12, 3) := by decide +kernel
theorem dX6_ofRange_78 : decode cX6_ofRange 78 = .ok (.getfield 92, 3) := by decide +kernel
theorem dX6_ofRange_81 : decode cX6_ofRange 81 = .ok (.getfield 111, 3) := by decide +kernel
theorem dX6_ofRange_84 : decode cX6_ofRange 84 = .ok (.iload_n 1, 1) := by decide +kernel
theorem dX6_ofRange_85 : decode cX6_ofRange 85 = .ok (.invokevirtual 103, 3) := by decide +kernel
theorem dX6_ofRange_88 : decode cX6_ofRange 88 = .ok (.ireturn, 1) := by decide +kernel
theorem dX6_ofRange_89 : decode cX6_ofRange 89 = .ok (.bipush (-2), 2) := by decide +kernel
theorem dX6_ofRange_91 : decode cX6_ofRange 91 = .ok (.ireturn, 1) := by decide +kernel
theorem dX6_ofOwner_0 : decode cX6_ofOwner 0 = .ok (.aload_n 0, 1) := by decide +kernel
theorem dX6_ofOwner_1 : decode cX6_ofOwner 1 = .ok (.getfield 12, 3) := by decide +kernel
theorem dX6_ofOwner_4 : decode cX6_ofOwner 4 = .ok (.iload_n 1, 1) := by decide +kernel
theorem dX6_ofOwner_5 : decode cX6_ofOwner 5 = .ok (.invokevirtual 114, 3) := by decide +kernel
theorem dX6_ofOwner_8 : decode cX6_ofOwner 8 = .ok (.ifCond .ne 5, 3) := by decide +kernel
theorem dX6_ofOwner_11 : decode cX6_ofOwner 11 = .ok (.iconst (-1), 1) := by decide +kernel
theorem dX6_ofOwner_12 : decode cX6_ofOwner 12 = .ok (.ireturn, 1) := by decide +kernel
theorem dX6_ofOwner_13 : decode cX6_ofOwner 13 = .ok (.iload_n 2, 1) := by decide +kernel
theorem dX6_ofOwner_14 : decode cX6_ofOwner 14 = .ok (.tableswitch 113 0 5 #[38, 53, 68, 80, 89, 101], 38) := by decide +kernel
theorem dX6_ofOwner_52 : decode cX6_ofOwner 52 = .ok (.aload_n 0, 1) := by decide +kernel
theorem dX6_ofOwner_53 : decode cX6_ofOwner 53 = .ok (.getfield 12, 3) := by decide +kernel
theorem dX6_ofOwner_56 : decode cX6_ofOwner 56 = .ok (.getfield 92, 3) := by decide +kernel
theorem dX6_ofOwner_59 : decode cX6_ofOwner 59 = .ok (.getfield 117, 3) := by decide +kernel
theorem dX6_ofOwner_62 : decode cX6_ofOwner 62 = .ok (.iload_n 1, 1) := by decide +kernel
theorem dX6_ofOwner_63 : decode cX6_ofOwner 63 = .ok (.invokevirtual 103, 3) := by decide +kernel
theorem dX6_ofOwner_66 : decode cX6_ofOwner 66 = .ok (.ireturn, 1) := by decide +kernel
theorem dX6_ofOwner_67 : decode cX6_ofOwner 67 = .ok (.aload_n 0, 1) := by decide +kernel
theorem dX6_ofOwner_68 : decode cX6_ofOwner 68 = .ok (.getfield 12, 3) := by decide +kernel
theorem dX6_ofOwner_71 : decode cX6_ofOwner 71 = .ok (.getfield 92, 3) := by decide +kernel
theorem dX6_ofOwner_74 : decode cX6_ofOwner 74 = .ok (.getfield 120, 3) := by decide +kernel
theorem dX6_ofOwner_77 : decode cX6_ofOwner 77 = .ok (.iload_n 1, 1) := by decide +kernel
theorem dX6_ofOwner_78 : decode cX6_ofOwner 78 = .ok (.invokevirtual 103, 3) := by decide +kernel
theorem dX6_ofOwner_81 : decode cX6_ofOwner 81 = .ok (.ireturn, 1) := by decide +kernel
theorem dX6_ofOwner_82 : decode cX6_ofOwner 82 = .ok (.aload_n 0, 1) := by decide +kernel
theorem dX6_ofOwner_83 : decode cX6_ofOwner 83 = .ok (.getfield 12, 3) := by decide +kernel
theorem dX6_ofOwner_86 : decode cX6_ofOwner 86 = .ok (.getfield 92, 3) := by decide +kernel
theorem dX6_ofOwner_89 : decode cX6_ofOwner 89 = .ok (.iload_n 1, 1) := by decide +kernel
theorem dX6_ofOwner_90 : decode cX6_ofOwner 90 = .ok (.invokevirtual 123, 3) := by decide +kernel
theorem dX6_ofOwner_93 : decode cX6_ofOwner 93 = .ok (.ireturn, 1) := by decide +kernel
theorem dX6_ofOwner_94 : decode cX6_ofOwner 94 = .ok (.aload_n 0, 1) := by decide +kernel
theorem dX6_ofOwner_95 : decode cX6_ofOwner 95 = .ok (.getfield 12, 3) := by decide +kernel
theorem dX6_ofOwner_98 : decode cX6_ofOwner 98 = .ok (.iload_n 1, 1) := by decide +kernel
theorem dX6_ofOwner_99 : decode cX6_ofOwner 99 = .ok (.invokevirtual 126, 3) := by decide +kernel
theorem dX6_ofOwner_102 : decode cX6_ofOwner 102 = .ok (.ireturn, 1) := by decide +kernel
theorem dX6_ofOwner_103 : decode cX6_ofOwner 103 = .ok (.aload_n 0, 1) := by decide +kernel
theorem dX6_ofOwner_104 : decode cX6_ofOwner 104 = .ok (.getfield 12, 3) := by decide +kernel
theorem dX6_ofOwner_107 : decode cX6_ofOwner 107 = .ok (.getfield 129, 3) := by decide +kernel
theorem dX6_ofOwner_110 : decode cX6_ofOwner 110 = .ok (.iload_n 1, 1) := by decide +kernel
theorem dX6_ofOwner_111 : decode cX6_ofOwner 111 = .ok (.invokevirtual 103, 3) := by decide +kernel
theorem dX6_ofOwner_114 : decode cX6_ofOwner 114 = .ok (.ireturn, 1) := by decide +kernel
theorem dX6_ofOwner_115 : decode cX6_ofOwner 115 = .ok (.aload_n 0, 1) := by decide +kernel
theorem dX6_ofOwner_116 : decode cX6_ofOwner 116 = .ok (.getfield 12, 3) := by decide +kernel
theorem dX6_ofOwner_119 : decode cX6_ofOwner 119 = .ok (.getfield 132, 3) := by decide +kernel
theorem dX6_ofOwner_122 : decode cX6_ofOwner 122 = .ok (.iload_n 1, 1) := by decide +kernel
theorem dX6_ofOwner_123 : decode cX6_ofOwner 123 = .ok (.invokevirtual 103, 3) := by decide +kernel
theorem dX6_ofOwner_126 : decode cX6_ofOwner 126 = .ok (.ireturn, 1) := by decide +kernel
theorem dX6_ofOwner_127 : decode cX6_ofOwner 127 = .ok (.bipush (-2), 2) := by decide +kernel
theorem dX6_ofOwner_129 : decode cX6_ofOwner 129 = .ok (.ireturn, 1) := by decide +kernel
theorem dX6_money_0 : decode cX6_money 0 = .ok (.aload_n 0, 1) := by decide +kernel
theorem dX6_money_1 : decode cX6_money 1 = .ok (.getfield 12, 3) := by decide +kernel
theorem dX6_money_4 : decode cX6_money 4 = .ok (.iload_n 1, 1) := by decide +kernel
theorem dX6_money_5 : decode cX6_money 5 = .ok (.invokevirtual 114, 3) := by decide +kernel
theorem dX6_money_8 : decode cX6_money 8 = .ok (.ifCond .eq 14, 3) := by decide +kernel
theorem dX6_money_11 : decode cX6_money 11 = .ok (.aload_n 0, 1) := by decide +kernel
theorem dX6_money_12 : decode cX6_money 12 = .ok (.getfield 12, 3) := by decide +kernel
theorem dX6_money_15 : decode cX6_money 15 = .ok (.iload_n 1, 1) := by decide +kernel
theorem dX6_money_16 : decode cX6_money 16 = .ok (.invokevirtual 135, 3) := by decide +kernel
theorem dX6_money_19 : decode cX6_money 19 = .ok (.goto 6, 3) := by decide +kernel
theorem dX6_money_22 : decode cX6_money 22 = .ok (.ldc2_w 139, 3) := by decide +kernel
theorem dX6_money_25 : decode cX6_money 25 = .ok (.lreturn, 1) := by decide +kernel
theorem dX6_ownerAt_0 : decode cX6_ownerAt 0 = .ok (.iload_n 1, 1) := by decide +kernel
theorem dX6_ownerAt_1 : decode cX6_ownerAt 1 = .ok (.ifCond .lt 10, 3) := by decide +kernel
theorem dX6_ownerAt_4 : decode cX6_ownerAt 4 = .ok (.iload_n 1, 1) := by decide +kernel
theorem dX6_ownerAt_5 : decode cX6_ownerAt 5 = .ok (.sipush 10000, 3) := by decide +kernel
theorem dX6_ownerAt_8 : decode cX6_ownerAt 8 = .ok (.if_icmp .lt 8, 3) := by decide +kernel
theorem dX6_ownerAt_11 : decode cX6_ownerAt 11 = .ok (.bipush (-2), 2) := by decide +kernel
theorem dX6_ownerAt_13 : decode cX6_ownerAt 13 = .ok (.goto 14, 3) := by decide +kernel
theorem dX6_ownerAt_16 : decode cX6_ownerAt 16 = .ok (.aload_n 0, 1) := by decide +kernel
theorem dX6_ownerAt_17 : decode cX6_ownerAt 17 = .ok (.getfield 12, 3) := by decide +kernel
theorem dX6_ownerAt_20 : decode cX6_ownerAt 20 = .ok (.getfield 92, 3) := by decide +kernel
theorem dX6_ownerAt_23 : decode cX6_ownerAt 23 = .ok (.iload_n 1, 1) := by decide +kernel
theorem dX6_ownerAt_24 : decode cX6_ownerAt 24 = .ok (.invokevirtual 141, 3) := by decide +kernel
theorem dX6_ownerAt_27 : decode cX6_ownerAt 27 = .ok (.ireturn, 1) := by decide +kernel
theorem dX6_ofTransfer_0 : decode cX6_ofTransfer 0 = .ok (.aload_n 0, 1) := by decide +kernel
theorem dX6_ofTransfer_1 : decode cX6_ofTransfer 1 = .ok (.getfield 12, 3) := by decide +kernel
theorem dX6_ofTransfer_4 : decode cX6_ofTransfer 4 = .ok (.getfield 144, 3) := by decide +kernel
theorem dX6_ofTransfer_7 : decode cX6_ofTransfer 7 = .ok (.iload_n 1, 1) := by decide +kernel
theorem dX6_ofTransfer_8 : decode cX6_ofTransfer 8 = .ok (.invokevirtual 148, 3) := by decide +kernel
theorem dX6_ofTransfer_11 : decode cX6_ofTransfer 11 = .ok (.ifCond .ne 5, 3) := by decide +kernel
theorem dX6_ofTransfer_14 : decode cX6_ofTransfer 14 = .ok (.iconst (-1), 1) := by decide +kernel
theorem dX6_ofTransfer_15 : decode cX6_ofTransfer 15 = .ok (.ireturn, 1) := by decide +kernel
theorem dX6_ofTransfer_16 : decode cX6_ofTransfer 16 = .ok (.iload_n 2, 1) := by decide +kernel
theorem dX6_ofTransfer_17 : decode cX6_ofTransfer 17 = .ok (.ifCond .lt 8, 3) := by decide +kernel
theorem dX6_ofTransfer_20 : decode cX6_ofTransfer 20 = .ok (.iload_n 2, 1) := by decide +kernel
theorem dX6_ofTransfer_21 : decode cX6_ofTransfer 21 = .ok (.iconst 5, 1) := by decide +kernel
theorem dX6_ofTransfer_22 : decode cX6_ofTransfer 22 = .ok (.if_icmp .lt 8, 3) := by decide +kernel
theorem dX6_ofTransfer_25 : decode cX6_ofTransfer 25 = .ok (.bipush (-2), 2) := by decide +kernel
theorem dX6_ofTransfer_27 : decode cX6_ofTransfer 27 = .ok (.goto 15, 3) := by decide +kernel
theorem dX6_ofTransfer_30 : decode cX6_ofTransfer 30 = .ok (.aload_n 0, 1) := by decide +kernel
theorem dX6_ofTransfer_31 : decode cX6_ofTransfer 31 = .ok (.getfield 12, 3) := by decide +kernel
theorem dX6_ofTransfer_34 : decode cX6_ofTransfer 34 = .ok (.getfield 144, 3) := by decide +kernel
theorem dX6_ofTransfer_37 : decode cX6_ofTransfer 37 = .ok (.iload_n 1, 1) := by decide +kernel
theorem dX6_ofTransfer_38 : decode cX6_ofTransfer 38 = .ok (.iload_n 2, 1) := by decide +kernel
theorem dX6_ofTransfer_39 : decode cX6_ofTransfer 39 = .ok (.invokevirtual 153, 3) := by decide +kernel
theorem dX6_ofTransfer_42 : decode cX6_ofTransfer 42 = .ok (.ireturn, 1) := by decide +kernel
theorem dX6_count_0 : decode cX6_count 0 = .ok (.iload_n 1, 1) := by decide +kernel
theorem dX6_count_1 : decode cX6_count 1 = .ok (.tableswitch 177 0 11 #[63, 71, 79, 90, 101, 112, 123, 134, 142, 150, 161, 169], 63) := by decide +kernel
theorem dX6_count_64 : decode cX6_count 64 = .ok (.aload_n 0, 1) := by decide +kernel
theorem dX6_count_65 : decode cX6_count 65 = .ok (.getfield 12, 3) := by decide +kernel
theorem dX6_count_68 : decode cX6_count 68 = .ok (.getfield 156, 3) := by decide +kernel
theorem dX6_count_71 : decode cX6_count 71 = .ok (.ireturn, 1) := by decide +kernel
theorem dX6_count_72 : decode cX6_count 72 = .ok (.aload_n 0, 1) := by decide +kernel
theorem dX6_count_73 : decode cX6_count 73 = .ok (.getfield 12, 3) := by decide +kernel
theorem dX6_count_76 : decode cX6_count 76 = .ok (.getfield 160, 3) := by decide +kernel
theorem dX6_count_79 : decode cX6_count 79 = .ok (.ireturn, 1) := by decide +kernel
theorem dX6_count_80 : decode cX6_count 80 = .ok (.aload_n 0, 1) := by decide +kernel
theorem dX6_count_81 : decode cX6_count 81 = .ok (.getfield 12, 3) := by decide +kernel
theorem dX6_count_84 : decode cX6_count 84 = .ok (.getfield 92, 3) := by decide +kernel
theorem dX6_count_87 : decode cX6_count 87 = .ok (.getfield 163, 3) := by decide +kernel
theorem dX6_count_90 : decode cX6_count 90 = .ok (.ireturn, 1) := by decide +kernel
theorem dX6_count_91 : decode cX6_count 91 = .ok (.aload_n 0, 1) := by decide +kernel
theorem dX6_count_92 : decode cX6_count 92 = .ok (.getfield 12, 3) := by decide +kernel
theorem dX6_count_95 : decode cX6_count 95 = .ok (.getfield 92, 3) := by decide +kernel
theorem dX6_count_98 : decode cX6_count 98 = .ok (.invokevirtual 166, 3) := by decide +kernel
theorem dX6_count_101 : decode cX6_count 101 = .ok (.ireturn, 1) := by decide +kernel
theorem dX6_count_102 : decode cX6_count 102 = .ok (.aload_n 0, 1) := by decide +kernel
theorem dX6_count_103 : decode cX6_count 103 = .ok (.getfield 12, 3) := by decide +kernel
theorem dX6_count_106 : decode cX6_count 106 = .ok (.getfield 92, 3) := by decide +kernel
theorem dX6_count_109 : decode cX6_count 109 = .ok (.invokevirtual 169, 3) := by decide +kernel
theorem dX6_count_112 : decode cX6_count 112 = .ok (.ireturn, 1) := by decide +kernel
theorem dX6_count_113 : decode cX6_count 113 = .ok (.aload_n 0, 1) := by decide +kernel
theorem dX6_count_114 : decode cX6_count 114 = .ok (.getfield 12, 3) := by decide +kernel
theorem dX6_count_117 : decode cX6_count 117 = .ok (.getfield 92, 3) := by decide +kernel
theorem dX6_count_120 : decode cX6_count 120 = .ok (.invokevirtual 172, 3) := by decide +kernel
theorem dX6_count_123 : decode cX6_count 123 = .ok (.ireturn, 1) := by decide +kernel
theorem dX6_count_124 : decode cX6_count 124 = .ok (.aload_n 0, 1) := by decide +kernel
theorem dX6_count_125 : decode cX6_count 125 = .ok (.getfield 12, 3) := by decide +kernel
theorem dX6_count_128 : decode cX6_count 128 = .ok (.getfield 144, 3) := by decide +kernel
theorem dX6_count_131 : decode cX6_count 131 = .ok (.getfield 175, 3) := by decide +kernel
theorem dX6_count_134 : decode cX6_count 134 = .ok (.ireturn, 1) := by decide +kernel
theorem dX6_count_135 : decode cX6_count 135 = .ok (.aload_n 0, 1) := by decide +kernel
theorem dX6_count_136 : decode cX6_count 136 = .ok (.getfield 12, 3) := by decide +kernel
theorem dX6_count_139 : decode cX6_count 139 = .ok (.getfield 176, 3) := by decide +kernel
theorem dX6_count_142 : decode cX6_count 142 = .ok (.ireturn, 1) := by decide +kernel
theorem dX6_count_143 : decode cX6_count 143 = .ok (.aload_n 0, 1) := by decide +kernel
theorem dX6_count_144 : decode cX6_count 144 = .ok (.getfield 12, 3) := by decide +kernel
theorem dX6_count_147 : decode cX6_count 147 = .ok (.getfield 179, 3) := by decide +kernel
theorem dX6_count_150 : decode cX6_count 150 = .ok (.ireturn, 1) := by decide +kernel
theorem dX6_count_151 : decode cX6_count 151 = .ok (.aload_n 0, 1) := by decide +kernel
theorem dX6_count_152 : decode cX6_count 152 = .ok (.getfield 12, 3) := by decide +kernel
theorem dX6_count_155 : decode cX6_count 155 = .ok (.getfield 129, 3) := by decide +kernel
theorem dX6_count_158 : decode cX6_count 158 = .ok (.invokevirtual 182, 3) := by decide +kernel
theorem dX6_count_161 : decode cX6_count 161 = .ok (.ireturn, 1) := by decide +kernel
theorem dX6_count_162 : decode cX6_count 162 = .ok (.aload_n 0, 1) := by decide +kernel
theorem dX6_count_163 : decode cX6_count 163 = .ok (.getfield 40, 3) := by decide +kernel
theorem dX6_count_166 : decode cX6_count 166 = .ok (.getfield 185, 3) := by decide +kernel
theorem dX6_count_169 : decode cX6_count 169 = .ok (.ireturn, 1) := by decide +kernel
theorem dX6_count_170 : decode cX6_count 170 = .ok (.aload_n 0, 1) := by decide +kernel
theorem dX6_count_171 : decode cX6_count 171 = .ok (.getfield 29, 3) := by decide +kernel
theorem dX6_count_174 : decode cX6_count 174 = .ok (.getfield 186, 3) := by decide +kernel
theorem dX6_count_177 : decode cX6_count 177 = .ok (.ireturn, 1) := by decide +kernel
theorem dX6_count_178 : decode cX6_count 178 = .ok (.iload_n 1, 1) := by decide +kernel
theorem dX6_count_179 : decode cX6_count 179 = .ok (.bipush 12, 2) := by decide +kernel
theorem dX6_count_181 : decode cX6_count 181 = .ok (.isub, 1) := by decide +kernel
theorem dX6_count_182 : decode cX6_count 182 = .ok (.invokestatic 187, 3) := by decide +kernel
theorem dX6_count_185 : decode cX6_count 185 = .ok (.ifCond .eq 20, 3) := by decide +kernel
theorem dX6_count_188 : decode cX6_count 188 = .ok (.aload_n 0, 1) := by decide +kernel
theorem dX6_count_189 : decode cX6_count 189 = .ok (.getfield 12, 3) := by decide +kernel
theorem dX6_count_192 : decode cX6_count 192 = .ok (.getfield 190, 3) := by decide +kernel
theorem dX6_count_195 : decode cX6_count 195 = .ok (.iload_n 1, 1) := by decide +kernel
theorem dX6_count_196 : decode cX6_count 196 = .ok (.bipush 12, 2) := by decide +kernel
theorem dX6_count_198 : decode cX6_count 198 = .ok (.isub, 1) := by decide +kernel
theorem dX6_count_199 : decode cX6_count 199 = .ok (.invokevirtual 103, 3) := by decide +kernel
theorem dX6_count_202 : decode cX6_count 202 = .ok (.goto 5, 3) := by decide +kernel
theorem dX6_count_205 : decode cX6_count 205 = .ok (.bipush (-2), 2) := by decide +kernel
theorem dX6_count_207 : decode cX6_count 207 = .ok (.ireturn, 1) := by decide +kernel
theorem dX6_shareBits_0 : decode cX6_shareBits 0 = .ok (.aload_n 0, 1) := by decide +kernel
theorem dX6_shareBits_1 : decode cX6_shareBits 1 = .ok (.getfield 12, 3) := by decide +kernel
theorem dX6_shareBits_4 : decode cX6_shareBits 4 = .ok (.iload_n 1, 1) := by decide +kernel
theorem dX6_shareBits_5 : decode cX6_shareBits 5 = .ok (.invokevirtual 114, 3) := by decide +kernel
theorem dX6_shareBits_8 : decode cX6_shareBits 8 = .ok (.ifCond .ne 5, 3) := by decide +kernel
theorem dX6_shareBits_11 : decode cX6_shareBits 11 = .ok (.iconst (-1), 1) := by decide +kernel
theorem dX6_shareBits_12 : decode cX6_shareBits 12 = .ok (.ireturn, 1) := by decide +kernel
theorem dX6_shareBits_13 : decode cX6_shareBits 13 = .ok (.aload_n 0, 1) := by decide +kernel
theorem dX6_shareBits_14 : decode cX6_shareBits 14 = .ok (.getfield 12, 3) := by decide +kernel
theorem dX6_shareBits_17 : decode cX6_shareBits 17 = .ok (.getfield 92, 3) := by decide +kernel
theorem dX6_shareBits_20 : decode cX6_shareBits 20 = .ok (.getfield 120, 3) := by decide +kernel
theorem dX6_shareBits_23 : decode cX6_shareBits 23 = .ok (.iload_n 1, 1) := by decide +kernel
theorem dX6_shareBits_24 : decode cX6_shareBits 24 = .ok (.invokevirtual 103, 3) := by decide +kernel
theorem dX6_shareBits_27 : decode cX6_shareBits 27 = .ok (.aload_n 0, 1) := by decide +kernel
theorem dX6_shareBits_28 : decode cX6_shareBits 28 = .ok (.getfield 12, 3) := by decide +kernel
theorem dX6_shareBits_31 : decode cX6_shareBits 31 = .ok (.getfield 92, 3) := by decide +kernel
theorem dX6_shareBits_34 : decode cX6_shareBits 34 = .ok (.invokevirtual 166, 3) := by decide +kernel
theorem dX6_shareBits_37 : decode cX6_shareBits 37 = .ok (.invokestatic 193, 3) := by decide +kernel
theorem dX6_shareBits_40 : decode cX6_shareBits 40 = .ok (.ireturn, 1) := by decide +kernel
theorem dX6_hole_0 : decode cX6_hole 0 = .ok (.iload_n 1, 1) := by decide +kernel
theorem dX6_hole_1 : decode cX6_hole 1 = .ok (.invokestatic 196, 3) := by decide +kernel
theorem dX6_hole_4 : decode cX6_hole 4 = .ok (.ifCond .eq 12, 3) := by decide +kernel
theorem dX6_hole_7 : decode cX6_hole 7 = .ok (.iload_n 2, 1) := by decide +kernel
theorem dX6_hole_8 : decode cX6_hole 8 = .ok (.ifCond .lt 8, 3) := by decide +kernel
theorem dX6_hole_11 : decode cX6_hole 11 = .ok (.iload_n 2, 1) := by decide +kernel
theorem dX6_hole_12 : decode cX6_hole 12 = .ok (.iconst 2, 1) := by decide +kernel
theorem dX6_hole_13 : decode cX6_hole 13 = .ok (.if_icmp .le 6, 3) := by decide +kernel
theorem dX6_hole_16 : decode cX6_hole 16 = .ok (.bipush (-2), 2) := by decide +kernel
theorem dX6_hole_18 : decode cX6_hole 18 = .ok (.ireturn, 1) := by decide +kernel
theorem dX6_hole_19 : decode cX6_hole 19 = .ok (.aload_n 0, 1) := by decide +kernel
theorem dX6_hole_20 : decode cX6_hole 20 = .ok (.getfield 12, 3) := by decide +kernel
theorem dX6_hole_23 : decode cX6_hole 23 = .ok (.getfield 92, 3) := by decide +kernel
theorem dX6_hole_26 : decode cX6_hole 26 = .ok (.iload_n 1, 1) := by decide +kernel
theorem dX6_hole_27 : decode cX6_hole 27 = .ok (.iload_n 2, 1) := by decide +kernel
theorem dX6_hole_28 : decode cX6_hole 28 = .ok (.invokevirtual 199, 3) := by decide +kernel
theorem dX6_hole_31 : decode cX6_hole 31 = .ok (.istore_n 3, 1) := by decide +kernel
theorem dX6_hole_32 : decode cX6_hole 32 = .ok (.iload_n 3, 1) := by decide +kernel
theorem dX6_hole_33 : decode cX6_hole 33 = .ok (.bipush (-6), 2) := by decide +kernel
theorem dX6_hole_35 : decode cX6_hole 35 = .ok (.if_icmp .ne 8, 3) := by decide +kernel
theorem dX6_hole_38 : decode cX6_hole 38 = .ok (.bipush (-6), 2) := by decide +kernel
theorem dX6_hole_40 : decode cX6_hole 40 = .ok (.goto 14, 3) := by decide +kernel
theorem dX6_hole_43 : decode cX6_hole 43 = .ok (.aload_n 0, 1) := by decide +kernel
theorem dX6_hole_44 : decode cX6_hole 44 = .ok (.getfield 12, 3) := by decide +kernel
theorem dX6_hole_47 : decode cX6_hole 47 = .ok (.getfield 92, 3) := by decide +kernel
theorem dX6_hole_50 : decode cX6_hole 50 = .ok (.iload_n 3, 1) := by decide +kernel
theorem dX6_hole_51 : decode cX6_hole 51 = .ok (.invokevirtual 202, 3) := by decide +kernel
theorem dX6_hole_54 : decode cX6_hole 54 = .ok (.ireturn, 1) := by decide +kernel
theorem dX6_wouldBe_0 : decode cX6_wouldBe 0 = .ok (.aload_n 0, 1) := by decide +kernel
theorem dX6_wouldBe_1 : decode cX6_wouldBe 1 = .ok (.getfield 12, 3) := by decide +kernel
theorem dX6_wouldBe_4 : decode cX6_wouldBe 4 = .ok (.iload_n 1, 1) := by decide +kernel
theorem dX6_wouldBe_5 : decode cX6_wouldBe 5 = .ok (.invokevirtual 114, 3) := by decide +kernel
theorem dX6_wouldBe_8 : decode cX6_wouldBe 8 = .ok (.ifCond .ne 5, 3) := by decide +kernel
theorem dX6_wouldBe_11 : decode cX6_wouldBe 11 = .ok (.iconst (-1), 1) := by decide +kernel
theorem dX6_wouldBe_12 : decode cX6_wouldBe 12 = .ok (.ireturn, 1) := by decide +kernel
theorem dX6_wouldBe_13 : decode cX6_wouldBe 13 = .ok (.iload_n 2, 1) := by decide +kernel
theorem dX6_wouldBe_14 : decode cX6_wouldBe 14 = .ok (.iload_n 3, 1) := by decide +kernel
theorem dX6_wouldBe_15 : decode cX6_wouldBe 15 = .ok (.invokestatic 205, 3) := by decide +kernel
theorem dX6_wouldBe_18 : decode cX6_wouldBe 18 = .ok (.ifCond .ne 6, 3) := by decide +kernel
theorem dX6_wouldBe_21 : decode cX6_wouldBe 21 = .ok (.bipush (-2), 2) := by decide +kernel
theorem dX6_wouldBe_23 : decode cX6_wouldBe 23 = .ok (.ireturn, 1) := by decide +kernel
theorem dX6_wouldBe_24 : decode cX6_wouldBe 24 = .ok (.aload_n 0, 1) := by decide +kernel
theorem dX6_wouldBe_25 : decode cX6_wouldBe 25 = .ok (.getfield 22, 3) := by decide +kernel
theorem dX6_wouldBe_28 : decode cX6_wouldBe 28 = .ok (.aload_n 0, 1) := by decide +kernel
theorem dX6_wouldBe_29 : decode cX6_wouldBe 29 = .ok (.getfield 12, 3) := by decide +kernel
theorem dX6_wouldBe_32 : decode cX6_wouldBe 32 = .ok (.getfield 92, 3) := by decide +kernel
theorem dX6_wouldBe_35 : decode cX6_wouldBe 35 = .ok (.iload_n 1, 1) := by decide +kernel
theorem dX6_wouldBe_36 : decode cX6_wouldBe 36 = .ok (.iload_n 2, 1) := by decide +kernel
theorem dX6_wouldBe_37 : decode cX6_wouldBe 37 = .ok (.iload_n 3, 1) := by decide +kernel
theorem dX6_wouldBe_38 : decode cX6_wouldBe 38 = .ok (.invokevirtual 209, 3) := by decide +kernel
theorem dX6_wouldBe_41 : decode cX6_wouldBe 41 = .ok (.aload_n 0, 1) := by decide +kernel
theorem dX6_wouldBe_42 : decode cX6_wouldBe 42 = .ok (.getfield 22, 3) := by decide +kernel
theorem dX6_wouldBe_45 : decode cX6_wouldBe 45 = .ok (.getfield 163, 3) := by decide +kernel
theorem dX6_wouldBe_48 : decode cX6_wouldBe 48 = .ok (.ireturn, 1) := by decide +kernel
theorem dX6_gaps_0 : decode cX6_gaps 0 = .ok (.aload_n 0, 1) := by decide +kernel
theorem dX6_gaps_1 : decode cX6_gaps 1 = .ok (.getfield 12, 3) := by decide +kernel
theorem dX6_gaps_4 : decode cX6_gaps 4 = .ok (.iload_n 1, 1) := by decide +kernel
theorem dX6_gaps_5 : decode cX6_gaps 5 = .ok (.invokevirtual 114, 3) := by decide +kernel
theorem dX6_gaps_8 : decode cX6_gaps 8 = .ok (.ifCond .eq 17, 3) := by decide +kernel
theorem dX6_gaps_11 : decode cX6_gaps 11 = .ok (.aload_n 0, 1) := by decide +kernel
theorem dX6_gaps_12 : decode cX6_gaps 12 = .ok (.getfield 12, 3) := by decide +kernel
theorem dX6_gaps_15 : decode cX6_gaps 15 = .ok (.getfield 92, 3) := by decide +kernel
theorem dX6_gaps_18 : decode cX6_gaps 18 = .ok (.iload_n 1, 1) := by decide +kernel
theorem dX6_gaps_19 : decode cX6_gaps 19 = .ok (.invokevirtual 219, 3) := by decide +kernel
theorem dX6_gaps_22 : decode cX6_gaps 22 = .ok (.goto 4, 3) := by decide +kernel
theorem dX6_gaps_25 : decode cX6_gaps 25 = .ok (.iconst (-1), 1) := by decide +kernel
theorem dX6_gaps_26 : decode cX6_gaps 26 = .ok (.ireturn, 1) := by decide +kernel
theorem dX6_losesIn_0 : decode cX6_losesIn 0 = .ok (.aload_n 0, 1) := by decide +kernel
theorem dX6_losesIn_1 : decode cX6_losesIn 1 = .ok (.getfield 12, 3) := by decide +kernel
theorem dX6_losesIn_4 : decode cX6_losesIn 4 = .ok (.iload_n 1, 1) := by decide +kernel
theorem dX6_losesIn_5 : decode cX6_losesIn 5 = .ok (.invokevirtual 114, 3) := by decide +kernel
theorem dX6_losesIn_8 : decode cX6_losesIn 8 = .ok (.ifCond .eq 14, 3) := by decide +kernel
theorem dX6_losesIn_11 : decode cX6_losesIn 11 = .ok (.aload_n 0, 1) := by decide +kernel
theorem dX6_losesIn_12 : decode cX6_losesIn 12 = .ok (.getfield 12, 3) := by decide +kernel
theorem dX6_losesIn_15 : decode cX6_losesIn 15 = .ok (.iload_n 1, 1) := by decide +kernel
theorem dX6_losesIn_16 : decode cX6_losesIn 16 = .ok (.invokevirtual 225, 3) := by decide +kernel
theorem dX6_losesIn_19 : decode cX6_losesIn 19 = .ok (.goto 4, 3) := by decide +kernel
theorem dX6_losesIn_22 : decode cX6_losesIn 22 = .ok (.iconst (-1), 1) := by decide +kernel
theorem dX6_losesIn_23 : decode cX6_losesIn 23 = .ok (.ireturn, 1) := by decide +kernel
theorem dX6_isSetting_0 : decode cX6_isSetting 0 = .ok (.iload_n 0, 1) := by decide +kernel
theorem dX6_isSetting_1 : decode cX6_isSetting 1 = .ok (.ifCond .lt 12, 3) := by decide +kernel
theorem dX6_isSetting_4 : decode cX6_isSetting 4 = .ok (.iload_n 0, 1) := by decide +kernel
theorem dX6_isSetting_5 : decode cX6_isSetting 5 = .ok (.iconst 5, 1) := by decide +kernel
theorem dX6_isSetting_6 : decode cX6_isSetting 6 = .ok (.if_icmp .ge 7, 3) := by decide +kernel
theorem dX6_isSetting_9 : decode cX6_isSetting 9 = .ok (.iconst 1, 1) := by decide +kernel
theorem dX6_isSetting_10 : decode cX6_isSetting 10 = .ok (.goto 4, 3) := by decide +kernel
theorem dX6_isSetting_13 : decode cX6_isSetting 13 = .ok (.iconst 0, 1) := by decide +kernel
theorem dX6_isSetting_14 : decode cX6_isSetting 14 = .ok (.ireturn, 1) := by decide +kernel
theorem dX6_isAmount_0 : decode cX6_isAmount 0 = .ok (.iload_n 0, 1) := by decide +kernel
theorem dX6_isAmount_1 : decode cX6_isAmount 1 = .ok (.ifCond .lt 14, 3) := by decide +kernel
theorem dX6_isAmount_4 : decode cX6_isAmount 4 = .ok (.iload_n 0, 1) := by decide +kernel
theorem dX6_isAmount_5 : decode cX6_isAmount 5 = .ok (.ldc_w 262, 3) := by decide +kernel
theorem dX6_isAmount_8 : decode cX6_isAmount 8 = .ok (.if_icmp .gt 7, 3) := by decide +kernel
theorem dX6_isAmount_11 : decode cX6_isAmount 11 = .ok (.iconst 1, 1) := by decide +kernel
theorem dX6_isAmount_12 : decode cX6_isAmount 12 = .ok (.goto 4, 3) := by decide +kernel
theorem dX6_isAmount_15 : decode cX6_isAmount 15 = .ok (.iconst 0, 1) := by decide +kernel
theorem dX6_isAmount_16 : decode cX6_isAmount 16 = .ok (.ireturn, 1) := by decide +kernel
theorem dX6_isLength_0 : decode cX6_isLength 0 = .ok (.iload_n 0, 1) := by decide +kernel
theorem dX6_isLength_1 : decode cX6_isLength 1 = .ok (.iconst 1, 1) := by decide +kernel
theorem dX6_isLength_2 : decode cX6_isLength 2 = .ok (.if_icmp .lt 14, 3) := by decide +kernel
theorem dX6_isLength_5 : decode cX6_isLength 5 = .ok (.iload_n 0, 1) := by decide +kernel
theorem dX6_isLength_6 : decode cX6_isLength 6 = .ok (.sipush 10000, 3) := by decide +kernel
theorem dX6_isLength_9 : decode cX6_isLength 9 = .ok (.if_icmp .gt 7, 3) := by decide +kernel
theorem dX6_isLength_12 : decode cX6_isLength 12 = .ok (.iconst 1, 1) := by decide +kernel
theorem dX6_isLength_13 : decode cX6_isLength 13 = .ok (.goto 4, 3) := by decide +kernel
theorem dX6_isLength_16 : decode cX6_isLength 16 = .ok (.iconst 0, 1) := by decide +kernel
theorem dX6_isLength_17 : decode cX6_isLength 17 = .ok (.ireturn, 1) := by decide +kernel
theorem dX6_isPiece_0 : decode cX6_isPiece 0 = .ok (.iload_n 0, 1) := by decide +kernel
theorem dX6_isPiece_1 : decode cX6_isPiece 1 = .ok (.ifCond .lt 30, 3) := by decide +kernel
theorem dX6_isPiece_4 : decode cX6_isPiece 4 = .ok (.iload_n 0, 1) := by decide +kernel
theorem dX6_isPiece_5 : decode cX6_isPiece 5 = .ok (.sipush 10000, 3) := by decide +kernel
theorem dX6_isPiece_8 : decode cX6_isPiece 8 = .ok (.if_icmp .ge 23, 3) := by decide +kernel
theorem dX6_isPiece_11 : decode cX6_isPiece 11 = .ok (.iload_n 1, 1) := by decide +kernel
theorem dX6_isPiece_12 : decode cX6_isPiece 12 = .ok (.invokestatic 196, 3) := by decide +kernel
theorem dX6_isPiece_15 : decode cX6_isPiece 15 = .ok (.ifCond .eq 16, 3) := by decide +kernel
theorem dX6_isPiece_18 : decode cX6_isPiece 18 = .ok (.iload_n 0, 1) := by decide +kernel
theorem dX6_isPiece_19 : decode cX6_isPiece 19 = .ok (.iload_n 1, 1) := by decide +kernel
theorem dX6_isPiece_20 : decode cX6_isPiece 20 = .ok (.iadd, 1) := by decide +kernel
theorem dX6_isPiece_21 : decode cX6_isPiece 21 = .ok (.sipush 10000, 3) := by decide +kernel
theorem dX6_isPiece_24 : decode cX6_isPiece 24 = .ok (.if_icmp .gt 7, 3) := by decide +kernel
theorem dX6_isPiece_27 : decode cX6_isPiece 27 = .ok (.iconst 1, 1) := by decide +kernel
theorem dX6_isPiece_28 : decode cX6_isPiece 28 = .ok (.goto 4, 3) := by decide +kernel
theorem dX6_isPiece_31 : decode cX6_isPiece 31 = .ok (.iconst 0, 1) := by decide +kernel
theorem dX6_isPiece_32 : decode cX6_isPiece 32 = .ok (.ireturn, 1) := by decide +kernel
theorem dX6_changeSetting_0 : decode cX6_changeSetting 0 = .ok (.iload_n 1, 1) := by decide +kernel
theorem dX6_changeSetting_1 : decode cX6_changeSetting 1 = .ok (.invokestatic 187, 3) := by decide +kernel
theorem dX6_changeSetting_4 : decode cX6_changeSetting 4 = .ok (.ifCond .eq 21, 3) := by decide +kernel
theorem dX6_changeSetting_7 : decode cX6_changeSetting 7 = .ok (.iload_n 2, 1) := by decide +kernel
theorem dX6_changeSetting_8 : decode cX6_changeSetting 8 = .ok (.getstatic 263, 3) := by decide +kernel
theorem dX6_changeSetting_11 : decode cX6_changeSetting 11 = .ok (.iload_n 1, 1) := by decide +kernel
theorem dX6_changeSetting_12 : decode cX6_changeSetting 12 = .ok (.iaload, 1) := by decide +kernel
theorem dX6_changeSetting_13 : decode cX6_changeSetting 13 = .ok (.if_icmp .lt 12, 3) := by decide +kernel
theorem dX6_changeSetting_16 : decode cX6_changeSetting 16 = .ok (.iload_n 2, 1) := by decide +kernel
theorem dX6_changeSetting_17 : decode cX6_changeSetting 17 = .ok (.getstatic 267, 3) := by decide +kernel
theorem dX6_changeSetting_20 : decode cX6_changeSetting 20 = .ok (.iload_n 1, 1) := by decide +kernel
theorem dX6_changeSetting_21 : decode cX6_changeSetting 21 = .ok (.iaload, 1) := by decide +kernel
theorem dX6_changeSetting_22 : decode cX6_changeSetting 22 = .ok (.if_icmp .le 6, 3) := by decide +kernel
theorem dX6_changeSetting_25 : decode cX6_changeSetting 25 = .ok (.bipush (-2), 2) := by decide +kernel
theorem dX6_changeSetting_27 : decode cX6_changeSetting 27 = .ok (.ireturn, 1) := by decide +kernel
theorem dX6_changeSetting_28 : decode cX6_changeSetting 28 = .ok (.aload_n 0, 1) := by decide +kernel
theorem dX6_changeSetting_29 : decode cX6_changeSetting 29 = .ok (.getfield 12, 3) := by decide +kernel
theorem dX6_changeSetting_32 : decode cX6_changeSetting 32 = .ok (.getfield 190, 3) := by decide +kernel
theorem dX6_changeSetting_35 : decode cX6_changeSetting 35 = .ok (.iload_n 1, 1) := by decide +kernel
theorem dX6_changeSetting_36 : decode cX6_changeSetting 36 = .ok (.invokevirtual 103, 3) := by decide +kernel
theorem dX6_changeSetting_39 : decode cX6_changeSetting 39 = .ok (.istore_n 3, 1) := by decide +kernel
theorem dX6_changeSetting_40 : decode cX6_changeSetting 40 = .ok (.aload_n 0, 1) := by decide +kernel
theorem dX6_changeSetting_41 : decode cX6_changeSetting 41 = .ok (.getfield 12, 3) := by decide +kernel
theorem dX6_changeSetting_44 : decode cX6_changeSetting 44 = .ok (.getfield 190, 3) := by decide +kernel
theorem dX6_changeSetting_47 : decode cX6_changeSetting 47 = .ok (.iload_n 1, 1) := by decide +kernel
theorem dX6_changeSetting_48 : decode cX6_changeSetting 48 = .ok (.iload_n 2, 1) := by decide +kernel
theorem dX6_changeSetting_49 : decode cX6_changeSetting 49 = .ok (.invokevirtual 270, 3) := by decide +kernel
theorem dX6_changeSetting_52 : decode cX6_changeSetting 52 = .ok (.iload_n 3, 1) := by decide +kernel
theorem dX6_changeSetting_53 : decode cX6_changeSetting 53 = .ok (.ireturn, 1) := by decide +kernel
theorem dX6_addOwner_0 : decode cX6_addOwner 0 = .ok (.iload_n 1, 1) := by decide +kernel
theorem dX6_addOwner_1 : decode cX6_addOwner 1 = .ok (.invokestatic 274, 3) := by decide +kernel
theorem dX6_addOwner_4 : decode cX6_addOwner 4 = .ok (.ifCond .ne 6, 3) := by decide +kernel
theorem dX6_addOwner_7 : decode cX6_addOwner 7 = .ok (.bipush (-2), 2) := by decide +kernel
theorem dX6_addOwner_9 : decode cX6_addOwner 9 = .ok (.ireturn, 1) := by decide +kernel
theorem dX6_addOwner_10 : decode cX6_addOwner 10 = .ok (.aload_n 0, 1) := by decide +kernel
theorem dX6_addOwner_11 : decode cX6_addOwner 11 = .ok (.getfield 12, 3) := by decide +kernel
theorem dX6_addOwner_14 : decode cX6_addOwner 14 = .ok (.getfield 160, 3) := by decide +kernel
theorem dX6_addOwner_17 : decode cX6_addOwner 17 = .ok (.bipush 10, 2) := by decide +kernel
theorem dX6_addOwner_19 : decode cX6_addOwner 19 = .ok (.if_icmp .lt 6, 3) := by decide +kernel
theorem dX6_addOwner_22 : decode cX6_addOwner 22 = .ok (.bipush (-4), 2) := by decide +kernel
theorem dX6_addOwner_24 : decode cX6_addOwner 24 = .ok (.ireturn, 1) := by decide +kernel
theorem dX6_addOwner_25 : decode cX6_addOwner 25 = .ok (.aload_n 0, 1) := by decide +kernel
theorem dX6_addOwner_26 : decode cX6_addOwner 26 = .ok (.getfield 12, 3) := by decide +kernel
theorem dX6_addOwner_29 : decode cX6_addOwner 29 = .ok (.getfield 160, 3) := by decide +kernel
theorem dX6_addOwner_32 : decode cX6_addOwner 32 = .ok (.istore_n 2, 1) := by decide +kernel
theorem dX6_addOwner_33 : decode cX6_addOwner 33 = .ok (.aload_n 0, 1) := by decide +kernel
theorem dX6_addOwner_34 : decode cX6_addOwner 34 = .ok (.getfield 12, 3) := by decide +kernel
theorem dX6_addOwner_37 : decode cX6_addOwner 37 = .ok (.iload_n 2, 1) := by decide +kernel
theorem dX6_addOwner_38 : decode cX6_addOwner 38 = .ok (.iconst 1, 1) := by decide +kernel
theorem dX6_addOwner_39 : decode cX6_addOwner 39 = .ok (.iadd, 1) := by decide +kernel
theorem dX6_addOwner_40 : decode cX6_addOwner 40 = .ok (.putfield 160, 3) := by decide +kernel
theorem dX6_addOwner_43 : decode cX6_addOwner 43 = .ok (.aload_n 0, 1) := by decide +kernel
theorem dX6_addOwner_44 : decode cX6_addOwner 44 = .ok (.getfield 12, 3) := by decide +kernel
theorem dX6_addOwner_47 : decode cX6_addOwner 47 = .ok (.iload_n 2, 1) := by decide +kernel
theorem dX6_addOwner_48 : decode cX6_addOwner 48 = .ok (.iload_n 1, 1) := by decide +kernel
theorem dX6_addOwner_49 : decode cX6_addOwner 49 = .ok (.i2l, 1) := by decide +kernel
theorem dX6_addOwner_50 : decode cX6_addOwner 50 = .ok (.invokevirtual 277, 3) := by decide +kernel
theorem dX6_addOwner_53 : decode cX6_addOwner 53 = .ok (.iload_n 2, 1) := by decide +kernel
theorem dX6_addOwner_54 : decode cX6_addOwner 54 = .ok (.ireturn, 1) := by decide +kernel
theorem dX6_payIn_0 : decode cX6_payIn 0 = .ok (.aload_n 0, 1) := by decide +kernel
theorem dX6_payIn_1 : decode cX6_payIn 1 = .ok (.getfield 12, 3) := by decide +kernel
theorem dX6_payIn_4 : decode cX6_payIn 4 = .ok (.iload_n 1, 1) := by decide +kernel
theorem dX6_payIn_5 : decode cX6_payIn 5 = .ok (.invokevirtual 114, 3) := by decide +kernel
theorem dX6_payIn_8 : decode cX6_payIn 8 = .ok (.ifCond .ne 5, 3) := by decide +kernel
theorem dX6_payIn_11 : decode cX6_payIn 11 = .ok (.iconst (-1), 1) := by decide +kernel
theorem dX6_payIn_12 : decode cX6_payIn 12 = .ok (.ireturn, 1) := by decide +kernel
theorem dX6_payIn_13 : decode cX6_payIn 13 = .ok (.iload_n 2, 1) := by decide +kernel
theorem dX6_payIn_14 : decode cX6_payIn 14 = .ok (.invokestatic 274, 3) := by decide +kernel
theorem dX6_payIn_17 : decode cX6_payIn 17 = .ok (.ifCond .ne 6, 3) := by decide +kernel
theorem dX6_payIn_20 : decode cX6_payIn 20 = .ok (.bipush (-2), 2) := by decide +kernel
theorem dX6_payIn_22 : decode cX6_payIn 22 = .ok (.ireturn, 1) := by decide +kernel
theorem dX6_payIn_23 : decode cX6_payIn 23 = .ok (.aload_n 0, 1) := by decide +kernel
theorem dX6_payIn_24 : decode cX6_payIn 24 = .ok (.getfield 12, 3) := by decide +kernel
theorem dX6_payIn_27 : decode cX6_payIn 27 = .ok (.iload_n 1, 1) := by decide +kernel
theorem dX6_payIn_28 : decode cX6_payIn 28 = .ok (.iload_n 2, 1) := by decide +kernel
theorem dX6_payIn_29 : decode cX6_payIn 29 = .ok (.i2l, 1) := by decide +kernel
theorem dX6_payIn_30 : decode cX6_payIn 30 = .ok (.invokevirtual 277, 3) := by decide +kernel
theorem dX6_payIn_33 : decode cX6_payIn 33 = .ok (.aload_n 0, 1) := by decide +kernel
theorem dX6_payIn_34 : decode cX6_payIn 34 = .ok (.getfield 12, 3) := by decide +kernel
theorem dX6_payIn_37 : decode cX6_payIn 37 = .ok (.iload_n 1, 1) := by decide +kernel
theorem dX6_payIn_38 : decode cX6_payIn 38 = .ok (.invokevirtual 135, 3) := by decide +kernel
theorem dX6_payIn_41 : decode cX6_payIn 41 = .ok (.lconst 0, 1) := by decide +kernel
theorem dX6_payIn_42 : decode cX6_payIn 42 = .ok (.lcmp, 1) := by decide +kernel
theorem dX6_payIn_43 : decode cX6_payIn 43 = .ok (.ifCond .lt 7, 3) := by decide +kernel
theorem dX6_payIn_46 : decode cX6_payIn 46 = .ok (.iconst 1, 1) := by decide +kernel
theorem dX6_payIn_47 : decode cX6_payIn 47 = .ok (.goto 4, 3) := by decide +kernel
theorem dX6_payIn_50 : decode cX6_payIn 50 = .ok (.iconst 0, 1) := by decide +kernel
theorem dX6_payIn_51 : decode cX6_payIn 51 = .ok (.ireturn, 1) := by decide +kernel
theorem dX6_givePiece_0 : decode cX6_givePiece 0 = .ok (.aload_n 0, 1) := by decide +kernel
theorem dX6_givePiece_1 : decode cX6_givePiece 1 = .ok (.getfield 12, 3) := by decide +kernel
theorem dX6_givePiece_4 : decode cX6_givePiece 4 = .ok (.iload_n 1, 1) := by decide +kernel
theorem dX6_givePiece_5 : decode cX6_givePiece 5 = .ok (.invokevirtual 114, 3) := by decide +kernel
theorem dX6_givePiece_8 : decode cX6_givePiece 8 = .ok (.ifCond .ne 5, 3) := by decide +kernel
theorem dX6_givePiece_11 : decode cX6_givePiece 11 = .ok (.iconst (-1), 1) := by decide +kernel
theorem dX6_givePiece_12 : decode cX6_givePiece 12 = .ok (.ireturn, 1) := by decide +kernel
theorem dX6_givePiece_13 : decode cX6_givePiece 13 = .ok (.iload_n 2, 1) := by decide +kernel
theorem dX6_givePiece_14 : decode cX6_givePiece 14 = .ok (.iload_n 3, 1) := by decide +kernel
theorem dX6_givePiece_15 : decode cX6_givePiece 15 = .ok (.invokestatic 205, 3) := by decide +kernel
theorem dX6_givePiece_18 : decode cX6_givePiece 18 = .ok (.ifCond .ne 6, 3) := by decide +kernel
theorem dX6_givePiece_21 : decode cX6_givePiece 21 = .ok (.bipush (-2), 2) := by decide +kernel
theorem dX6_givePiece_23 : decode cX6_givePiece 23 = .ok (.ireturn, 1) := by decide +kernel
theorem dX6_givePiece_24 : decode cX6_givePiece 24 = .ok (.aload_n 0, 1) := by decide +kernel
theorem dX6_givePiece_25 : decode cX6_givePiece 25 = .ok (.getfield 22, 3) := by decide +kernel
theorem dX6_givePiece_28 : decode cX6_givePiece 28 = .ok (.aload_n 0, 1) := by decide +kernel
theorem dX6_givePiece_29 : decode cX6_givePiece 29 = .ok (.getfield 12, 3) := by decide +kernel
theorem dX6_givePiece_32 : decode cX6_givePiece 32 = .ok (.getfield 92, 3) := by decide +kernel
theorem dX6_givePiece_35 : decode cX6_givePiece 35 = .ok (.iload_n 1, 1) := by decide +kernel
theorem dX6_givePiece_36 : decode cX6_givePiece 36 = .ok (.iload_n 2, 1) := by decide +kernel
theorem dX6_givePiece_37 : decode cX6_givePiece 37 = .ok (.iload_n 3, 1) := by decide +kernel
theorem dX6_givePiece_38 : decode cX6_givePiece 38 = .ok (.invokevirtual 209, 3) := by decide +kernel
theorem dX6_givePiece_41 : decode cX6_givePiece 41 = .ok (.aload_n 0, 1) := by decide +kernel
theorem dX6_givePiece_42 : decode cX6_givePiece 42 = .ok (.getfield 22, 3) := by decide +kernel
theorem dX6_givePiece_45 : decode cX6_givePiece 45 = .ok (.getfield 163, 3) := by decide +kernel
theorem dX6_givePiece_48 : decode cX6_givePiece 48 = .ok (.bipush 40, 2) := by decide +kernel
theorem dX6_givePiece_50 : decode cX6_givePiece 50 = .ok (.if_icmp .le 6, 3) := by decide +kernel
theorem dX6_givePiece_53 : decode cX6_givePiece 53 = .ok (.bipush (-4), 2) := by decide +kernel
theorem dX6_givePiece_55 : decode cX6_givePiece 55 = .ok (.ireturn, 1) := by decide +kernel
theorem dX6_givePiece_56 : decode cX6_givePiece 56 = .ok (.aload_n 0, 1) := by decide +kernel
theorem dX6_givePiece_57 : decode cX6_givePiece 57 = .ok (.getfield 12, 3) := by decide +kernel
theorem dX6_givePiece_60 : decode cX6_givePiece 60 = .ok (.iload_n 1, 1) := by decide +kernel
theorem dX6_givePiece_61 : decode cX6_givePiece 61 = .ok (.iload_n 3, 1) := by decide +kernel
theorem dX6_givePiece_62 : decode cX6_givePiece 62 = .ok (.aload_n 0, 1) := by decide +kernel
theorem dX6_givePiece_63 : decode cX6_givePiece 63 = .ok (.getfield 12, 3) := by decide +kernel
theorem dX6_givePiece_66 : decode cX6_givePiece 66 = .ok (.getfield 92, 3) := by decide +kernel
theorem dX6_givePiece_69 : decode cX6_givePiece 69 = .ok (.iload_n 1, 1) := by decide +kernel
theorem dX6_givePiece_70 : decode cX6_givePiece 70 = .ok (.iload_n 2, 1) := by decide +kernel
theorem dX6_givePiece_71 : decode cX6_givePiece 71 = .ok (.iload_n 3, 1) := by decide +kernel
theorem dX6_givePiece_72 : decode cX6_givePiece 72 = .ok (.invokevirtual 281, 3) := by decide +kernel
theorem dX6_givePiece_75 : decode cX6_givePiece 75 = .ok (.isub, 1) := by decide +kernel
theorem dX6_givePiece_76 : decode cX6_givePiece 76 = .ok (.invokevirtual 284, 3) := by decide +kernel
theorem dX6_givePiece_79 : decode cX6_givePiece 79 = .ok (.ifCond .ne 6, 3) := by decide +kernel
theorem dX6_givePiece_82 : decode cX6_givePiece 82 = .ok (.bipush (-5), 2) := by decide +kernel
theorem dX6_givePiece_84 : decode cX6_givePiece 84 = .ok (.ireturn, 1) := by decide +kernel
theorem dX6_givePiece_85 : decode cX6_givePiece 85 = .ok (.aload_n 0, 1) := by decide +kernel
theorem dX6_givePiece_86 : decode cX6_givePiece 86 = .ok (.getfield 12, 3) := by decide +kernel
theorem dX6_givePiece_89 : decode cX6_givePiece 89 = .ok (.getfield 92, 3) := by decide +kernel
theorem dX6_givePiece_92 : decode cX6_givePiece 92 = .ok (.aload_n 0, 1) := by decide +kernel
theorem dX6_givePiece_93 : decode cX6_givePiece 93 = .ok (.getfield 22, 3) := by decide +kernel
theorem dX6_givePiece_96 : decode cX6_givePiece 96 = .ok (.invokevirtual 287, 3) := by decide +kernel
theorem dX6_givePiece_99 : decode cX6_givePiece 99 = .ok (.aload_n 0, 1) := by decide +kernel
theorem dX6_givePiece_100 : decode cX6_givePiece 100 = .ok (.getfield 22, 3) := by decide +kernel
theorem dX6_givePiece_103 : decode cX6_givePiece 103 = .ok (.getfield 163, 3) := by decide +kernel
theorem dX6_givePiece_106 : decode cX6_givePiece 106 = .ok (.ireturn, 1) := by decide +kernel
theorem dX6_freePiece_0 : decode cX6_freePiece 0 = .ok (.iload_n 1, 1) := by decide +kernel
theorem dX6_freePiece_1 : decode cX6_freePiece 1 = .ok (.iload_n 2, 1) := by decide +kernel
theorem dX6_freePiece_2 : decode cX6_freePiece 2 = .ok (.invokestatic 205, 3) := by decide +kernel
theorem dX6_freePiece_5 : decode cX6_freePiece 5 = .ok (.ifCond .ne 6, 3) := by decide +kernel
theorem dX6_freePiece_8 : decode cX6_freePiece 8 = .ok (.bipush (-2), 2) := by decide +kernel
theorem dX6_freePiece_10 : decode cX6_freePiece 10 = .ok (.ireturn, 1) := by decide +kernel
theorem dX6_freePiece_11 : decode cX6_freePiece 11 = .ok (.aload_n 0, 1) := by decide +kernel
theorem dX6_freePiece_12 : decode cX6_freePiece 12 = .ok (.getfield 22, 3) := by decide +kernel
theorem dX6_freePiece_15 : decode cX6_freePiece 15 = .ok (.aload_n 0, 1) := by decide +kernel
theorem dX6_freePiece_16 : decode cX6_freePiece 16 = .ok (.getfield 12, 3) := by decide +kernel
theorem dX6_freePiece_19 : decode cX6_freePiece 19 = .ok (.getfield 92, 3) := by decide +kernel
theorem dX6_freePiece_22 : decode cX6_freePiece 22 = .ok (.bipush (-6), 2) := by decide +kernel
theorem dX6_freePiece_24 : decode cX6_freePiece 24 = .ok (.iload_n 1, 1) := by decide +kernel
theorem dX6_freePiece_25 : decode cX6_freePiece 25 = .ok (.iload_n 2, 1) := by decide +kernel
theorem dX6_freePiece_26 : decode cX6_freePiece 26 = .ok (.invokevirtual 209, 3) := by decide +kernel
theorem dX6_freePiece_29 : decode cX6_freePiece 29 = .ok (.aload_n 0, 1) := by decide +kernel
theorem dX6_freePiece_30 : decode cX6_freePiece 30 = .ok (.getfield 22, 3) := by decide +kernel
theorem dX6_freePiece_33 : decode cX6_freePiece 33 = .ok (.getfield 163, 3) := by decide +kernel
theorem dX6_freePiece_36 : decode cX6_freePiece 36 = .ok (.bipush 40, 2) := by decide +kernel
theorem dX6_freePiece_38 : decode cX6_freePiece 38 = .ok (.if_icmp .le 6, 3) := by decide +kernel
theorem dX6_freePiece_41 : decode cX6_freePiece 41 = .ok (.bipush (-4), 2) := by decide +kernel
theorem dX6_freePiece_43 : decode cX6_freePiece 43 = .ok (.ireturn, 1) := by decide +kernel
theorem dX6_freePiece_44 : decode cX6_freePiece 44 = .ok (.aload_n 0, 1) := by decide +kernel
theorem dX6_freePiece_45 : decode cX6_freePiece 45 = .ok (.getfield 12, 3) := by decide +kernel
theorem dX6_freePiece_48 : decode cX6_freePiece 48 = .ok (.getfield 92, 3) := by decide +kernel
theorem dX6_freePiece_51 : decode cX6_freePiece 51 = .ok (.aload_n 0, 1) := by decide +kernel
theorem dX6_freePiece_52 : decode cX6_freePiece 52 = .ok (.getfield 22, 3) := by decide +kernel
theorem dX6_freePiece_55 : decode cX6_freePiece 55 = .ok (.invokevirtual 287, 3) := by decide +kernel
theorem dX6_freePiece_58 : decode cX6_freePiece 58 = .ok (.aload_n 0, 1) := by decide +kernel
theorem dX6_freePiece_59 : decode cX6_freePiece 59 = .ok (.getfield 22, 3) := by decide +kernel
theorem dX6_freePiece_62 : decode cX6_freePiece 62 = .ok (.getfield 163, 3) := by decide +kernel
theorem dX6_freePiece_65 : decode cX6_freePiece 65 = .ok (.ireturn, 1) := by decide +kernel
theorem dX6_grabPiece_0 : decode cX6_grabPiece 0 = .ok (.aload_n 0, 1) := by decide +kernel
theorem dX6_grabPiece_1 : decode cX6_grabPiece 1 = .ok (.getfield 12, 3) := by decide +kernel
theorem dX6_grabPiece_4 : decode cX6_grabPiece 4 = .ok (.iload_n 1, 1) := by decide +kernel
theorem dX6_grabPiece_5 : decode cX6_grabPiece 5 = .ok (.invokevirtual 114, 3) := by decide +kernel
theorem dX6_grabPiece_8 : decode cX6_grabPiece 8 = .ok (.ifCond .ne 5, 3) := by decide +kernel
theorem dX6_grabPiece_11 : decode cX6_grabPiece 11 = .ok (.iconst (-1), 1) := by decide +kernel
theorem dX6_grabPiece_12 : decode cX6_grabPiece 12 = .ok (.ireturn, 1) := by decide +kernel
theorem dX6_grabPiece_13 : decode cX6_grabPiece 13 = .ok (.iload_n 2, 1) := by decide +kernel
theorem dX6_grabPiece_14 : decode cX6_grabPiece 14 = .ok (.invokestatic 196, 3) := by decide +kernel
theorem dX6_grabPiece_17 : decode cX6_grabPiece 17 = .ok (.ifCond .ne 6, 3) := by decide +kernel
theorem dX6_grabPiece_20 : decode cX6_grabPiece 20 = .ok (.bipush (-2), 2) := by decide +kernel
theorem dX6_grabPiece_22 : decode cX6_grabPiece 22 = .ok (.ireturn, 1) := by decide +kernel
theorem dX6_grabPiece_23 : decode cX6_grabPiece 23 = .ok (.aload_n 0, 1) := by decide +kernel
theorem dX6_grabPiece_24 : decode cX6_grabPiece 24 = .ok (.getfield 12, 3) := by decide +kernel
theorem dX6_grabPiece_27 : decode cX6_grabPiece 27 = .ok (.getfield 92, 3) := by decide +kernel
theorem dX6_grabPiece_30 : decode cX6_grabPiece 30 = .ok (.iload_n 2, 1) := by decide +kernel
theorem dX6_grabPiece_31 : decode cX6_grabPiece 31 = .ok (.iconst 0, 1) := by decide +kernel
theorem dX6_grabPiece_32 : decode cX6_grabPiece 32 = .ok (.invokevirtual 199, 3) := by decide +kernel
theorem dX6_grabPiece_35 : decode cX6_grabPiece 35 = .ok (.istore_n 3, 1) := by decide +kernel
theorem dX6_grabPiece_36 : decode cX6_grabPiece 36 = .ok (.iload_n 3, 1) := by decide +kernel
theorem dX6_grabPiece_37 : decode cX6_grabPiece 37 = .ok (.bipush (-6), 2) := by decide +kernel
theorem dX6_grabPiece_39 : decode cX6_grabPiece 39 = .ok (.if_icmp .ne 6, 3) := by decide +kernel
theorem dX6_grabPiece_42 : decode cX6_grabPiece 42 = .ok (.bipush (-5), 2) := by decide +kernel
theorem dX6_grabPiece_44 : decode cX6_grabPiece 44 = .ok (.ireturn, 1) := by decide +kernel
theorem dX6_grabPiece_45 : decode cX6_grabPiece 45 = .ok (.aload_n 0, 1) := by decide +kernel
theorem dX6_grabPiece_46 : decode cX6_grabPiece 46 = .ok (.getfield 12, 3) := by decide +kernel
theorem dX6_grabPiece_49 : decode cX6_grabPiece 49 = .ok (.getfield 92, 3) := by decide +kernel
theorem dX6_grabPiece_52 : decode cX6_grabPiece 52 = .ok (.iload_n 3, 1) := by decide +kernel
theorem dX6_grabPiece_53 : decode cX6_grabPiece 53 = .ok (.invokevirtual 202, 3) := by decide +kernel
theorem dX6_grabPiece_56 : decode cX6_grabPiece 56 = .ok (.istore 4, 2) := by decide +kernel
theorem dX6_grabPiece_58 : decode cX6_grabPiece 58 = .ok (.aload_n 0, 1) := by decide +kernel
theorem dX6_grabPiece_59 : decode cX6_grabPiece 59 = .ok (.iload_n 1, 1) := by decide +kernel
theorem dX6_grabPiece_60 : decode cX6_grabPiece 60 = .ok (.iload 4, 2) := by decide +kernel
theorem dX6_grabPiece_62 : decode cX6_grabPiece 62 = .ok (.iload_n 2, 1) := by decide +kernel
theorem dX6_grabPiece_63 : decode cX6_grabPiece 63 = .ok (.invokevirtual 62, 3) := by decide +kernel
theorem dX6_grabPiece_66 : decode cX6_grabPiece 66 = .ok (.istore 5, 2) := by decide +kernel
theorem dX6_grabPiece_68 : decode cX6_grabPiece 68 = .ok (.iload 5, 2) := by decide +kernel
theorem dX6_grabPiece_70 : decode cX6_grabPiece 70 = .ok (.ifCond .ge 8, 3) := by decide +kernel
theorem dX6_grabPiece_73 : decode cX6_grabPiece 73 = .ok (.iload 5, 2) := by decide +kernel
theorem dX6_grabPiece_75 : decode cX6_grabPiece 75 = .ok (.goto 5, 3) := by decide +kernel
theorem dX6_grabPiece_78 : decode cX6_grabPiece 78 = .ok (.iload 4, 2) := by decide +kernel
theorem dX6_grabPiece_80 : decode cX6_grabPiece 80 = .ok (.ireturn, 1) := by decide +kernel
theorem dX6_handOver_0 : decode cX6_handOver 0 = .ok (.aload_n 0, 1) := by decide +kernel
theorem dX6_handOver_1 : decode cX6_handOver 1 = .ok (.getfield 12, 3) := by decide +kernel
theorem dX6_handOver_4 : decode cX6_handOver 4 = .ok (.iload_n 1, 1) := by decide +kernel
theorem dX6_handOver_5 : decode cX6_handOver 5 = .ok (.invokevirtual 114, 3) := by decide +kernel
theorem dX6_handOver_8 : decode cX6_handOver 8 = .ok (.ifCond .eq 19, 3) := by decide +kernel
theorem dX6_handOver_11 : decode cX6_handOver 11 = .ok (.aload_n 0, 1) := by decide +kernel
theorem dX6_handOver_12 : decode cX6_handOver 12 = .ok (.getfield 12, 3) := by decide +kernel
theorem dX6_handOver_15 : decode cX6_handOver 15 = .ok (.iload_n 2, 1) := by decide +kernel
theorem dX6_handOver_16 : decode cX6_handOver 16 = .ok (.invokevirtual 114, 3) := by decide +kernel
theorem dX6_handOver_19 : decode cX6_handOver 19 = .ok (.ifCond .eq 8, 3) := by decide +kernel
theorem dX6_handOver_22 : decode cX6_handOver 22 = .ok (.iload_n 1, 1) := by decide +kernel
theorem dX6_handOver_23 : decode cX6_handOver 23 = .ok (.iload_n 2, 1) := by decide +kernel
theorem dX6_handOver_24 : decode cX6_handOver 24 = .ok (.if_icmp .ne 5, 3) := by decide +kernel
theorem dX6_handOver_27 : decode cX6_handOver 27 = .ok (.iconst (-1), 1) := by decide +kernel
theorem dX6_handOver_28 : decode cX6_handOver 28 = .ok (.ireturn, 1) := by decide +kernel
theorem dX6_handOver_29 : decode cX6_handOver 29 = .ok (.aload_n 0, 1) := by decide +kernel
theorem dX6_handOver_30 : decode cX6_handOver 30 = .ok (.getfield 12, 3) := by decide +kernel
theorem dX6_handOver_33 : decode cX6_handOver 33 = .ok (.getfield 92, 3) := by decide +kernel
theorem dX6_handOver_36 : decode cX6_handOver 36 = .ok (.getfield 120, 3) := by decide +kernel
theorem dX6_handOver_39 : decode cX6_handOver 39 = .ok (.iload_n 1, 1) := by decide +kernel
theorem dX6_handOver_40 : decode cX6_handOver 40 = .ok (.invokevirtual 103, 3) := by decide +kernel
theorem dX6_handOver_43 : decode cX6_handOver 43 = .ok (.istore_n 3, 1) := by decide +kernel
theorem dX6_handOver_44 : decode cX6_handOver 44 = .ok (.aload_n 0, 1) := by decide +kernel
theorem dX6_handOver_45 : decode cX6_handOver 45 = .ok (.getfield 12, 3) := by decide +kernel
theorem dX6_handOver_48 : decode cX6_handOver 48 = .ok (.iload_n 2, 1) := by decide +kernel
theorem dX6_handOver_49 : decode cX6_handOver 49 = .ok (.iload_n 3, 1) := by decide +kernel
theorem dX6_handOver_50 : decode cX6_handOver 50 = .ok (.invokevirtual 284, 3) := by decide +kernel
theorem dX6_handOver_53 : decode cX6_handOver 53 = .ok (.ifCond .ne 6, 3) := by decide +kernel
theorem dX6_handOver_56 : decode cX6_handOver 56 = .ok (.bipush (-5), 2) := by decide +kernel
theorem dX6_handOver_58 : decode cX6_handOver 58 = .ok (.ireturn, 1) := by decide +kernel
theorem dX6_handOver_59 : decode cX6_handOver 59 = .ok (.aload_n 0, 1) := by decide +kernel
theorem dX6_handOver_60 : decode cX6_handOver 60 = .ok (.getfield 22, 3) := by decide +kernel
theorem dX6_handOver_63 : decode cX6_handOver 63 = .ok (.aload_n 0, 1) := by decide +kernel
theorem dX6_handOver_64 : decode cX6_handOver 64 = .ok (.getfield 12, 3) := by decide +kernel
theorem dX6_handOver_67 : decode cX6_handOver 67 = .ok (.getfield 92, 3) := by decide +kernel
theorem dX6_handOver_70 : decode cX6_handOver 70 = .ok (.iload_n 1, 1) := by decide +kernel
theorem dX6_handOver_71 : decode cX6_handOver 71 = .ok (.iload_n 2, 1) := by decide +kernel
theorem dX6_handOver_72 : decode cX6_handOver 72 = .ok (.invokevirtual 290, 3) := by decide +kernel
theorem dX6_handOver_75 : decode cX6_handOver 75 = .ok (.aload_n 0, 1) := by decide +kernel
theorem dX6_handOver_76 : decode cX6_handOver 76 = .ok (.getfield 12, 3) := by decide +kernel
theorem dX6_handOver_79 : decode cX6_handOver 79 = .ok (.getfield 92, 3) := by decide +kernel
theorem dX6_handOver_82 : decode cX6_handOver 82 = .ok (.aload_n 0, 1) := by decide +kernel
theorem dX6_handOver_83 : decode cX6_handOver 83 = .ok (.getfield 22, 3) := by decide +kernel
theorem dX6_handOver_86 : decode cX6_handOver 86 = .ok (.invokevirtual 287, 3) := by decide +kernel
theorem dX6_handOver_89 : decode cX6_handOver 89 = .ok (.iload_n 3, 1) := by decide +kernel
theorem dX6_handOver_90 : decode cX6_handOver 90 = .ok (.ireturn, 1) := by decide +kernel
theorem dX6_addTransfer_0 : decode cX6_addTransfer 0 = .ok (.aload_n 0, 1) := by decide +kernel
theorem dX6_addTransfer_1 : decode cX6_addTransfer 1 = .ok (.getfield 12, 3) := by decide +kernel
theorem dX6_addTransfer_4 : decode cX6_addTransfer 4 = .ok (.iload_n 1, 1) := by decide +kernel
theorem dX6_addTransfer_5 : decode cX6_addTransfer 5 = .ok (.invokevirtual 114, 3) := by decide +kernel
theorem dX6_addTransfer_8 : decode cX6_addTransfer 8 = .ok (.ifCond .eq 19, 3) := by decide +kernel
theorem dX6_addTransfer_11 : decode cX6_addTransfer 11 = .ok (.aload_n 0, 1) := by decide +kernel
theorem dX6_addTransfer_12 : decode cX6_addTransfer 12 = .ok (.getfield 12, 3) := by decide +kernel
theorem dX6_addTransfer_15 : decode cX6_addTransfer 15 = .ok (.iload_n 2, 1) := by decide +kernel
theorem dX6_addTransfer_16 : decode cX6_addTransfer 16 = .ok (.invokevirtual 114, 3) := by decide +kernel
theorem dX6_addTransfer_19 : decode cX6_addTransfer 19 = .ok (.ifCond .eq 8, 3) := by decide +kernel
theorem dX6_addTransfer_22 : decode cX6_addTransfer 22 = .ok (.iload_n 1, 1) := by decide +kernel
theorem dX6_addTransfer_23 : decode cX6_addTransfer 23 = .ok (.iload_n 2, 1) := by decide +kernel
theorem dX6_addTransfer_24 : decode cX6_addTransfer 24 = .ok (.if_icmp .ne 5, 3) := by decide +kernel
theorem dX6_addTransfer_27 : decode cX6_addTransfer 27 = .ok (.iconst (-1), 1) := by decide +kernel
theorem dX6_addTransfer_28 : decode cX6_addTransfer 28 = .ok (.ireturn, 1) := by decide +kernel
theorem dX6_addTransfer_29 : decode cX6_addTransfer 29 = .ok (.iload_n 3, 1) := by decide +kernel
theorem dX6_addTransfer_30 : decode cX6_addTransfer 30 = .ok (.iload 4, 2) := by decide +kernel
theorem dX6_addTransfer_32 : decode cX6_addTransfer 32 = .ok (.invokestatic 205, 3) := by decide +kernel
theorem dX6_addTransfer_35 : decode cX6_addTransfer 35 = .ok (.ifCond .eq 11, 3) := by decide +kernel
theorem dX6_addTransfer_38 : decode cX6_addTransfer 38 = .ok (.iload 5, 2) := by decide +kernel
theorem dX6_addTransfer_40 : decode cX6_addTransfer 40 = .ok (.invokestatic 274, 3) := by decide +kernel
theorem dX6_addTransfer_43 : decode cX6_addTransfer 43 = .ok (.ifCond .ne 6, 3) := by decide +kernel
theorem dX6_addTransfer_46 : decode cX6_addTransfer 46 = .ok (.bipush (-2), 2) := by decide +kernel
theorem dX6_addTransfer_48 : decode cX6_addTransfer 48 = .ok (.ireturn, 1) := by decide +kernel
theorem dX6_addTransfer_49 : decode cX6_addTransfer 49 = .ok (.aload_n 0, 1) := by decide +kernel
theorem dX6_addTransfer_50 : decode cX6_addTransfer 50 = .ok (.getfield 12, 3) := by decide +kernel
theorem dX6_addTransfer_53 : decode cX6_addTransfer 53 = .ok (.getfield 144, 3) := by decide +kernel
theorem dX6_addTransfer_56 : decode cX6_addTransfer 56 = .ok (.getfield 175, 3) := by decide +kernel
theorem dX6_addTransfer_59 : decode cX6_addTransfer 59 = .ok (.bipush 8, 2) := by decide +kernel
theorem dX6_addTransfer_61 : decode cX6_addTransfer 61 = .ok (.if_icmp .lt 6, 3) := by decide +kernel
theorem dX6_addTransfer_64 : decode cX6_addTransfer 64 = .ok (.bipush (-4), 2) := by decide +kernel
theorem dX6_addTransfer_66 : decode cX6_addTransfer 66 = .ok (.ireturn, 1) := by decide +kernel
theorem dX6_addTransfer_67 : decode cX6_addTransfer 67 = .ok (.aload_n 0, 1) := by decide +kernel
theorem dX6_addTransfer_68 : decode cX6_addTransfer 68 = .ok (.getfield 12, 3) := by decide +kernel
theorem dX6_addTransfer_71 : decode cX6_addTransfer 71 = .ok (.getfield 144, 3) := by decide +kernel
theorem dX6_addTransfer_74 : decode cX6_addTransfer 74 = .ok (.iload_n 1, 1) := by decide +kernel
theorem dX6_addTransfer_75 : decode cX6_addTransfer 75 = .ok (.iload_n 2, 1) := by decide +kernel
theorem dX6_addTransfer_76 : decode cX6_addTransfer 76 = .ok (.iload_n 3, 1) := by decide +kernel
theorem dX6_addTransfer_77 : decode cX6_addTransfer 77 = .ok (.iload 4, 2) := by decide +kernel
theorem dX6_addTransfer_79 : decode cX6_addTransfer 79 = .ok (.iload 5, 2) := by decide +kernel
theorem dX6_addTransfer_81 : decode cX6_addTransfer 81 = .ok (.invokevirtual 294, 3) := by decide +kernel
theorem dX6_addTransfer_84 : decode cX6_addTransfer 84 = .ok (.aload_n 0, 1) := by decide +kernel
theorem dX6_addTransfer_85 : decode cX6_addTransfer 85 = .ok (.getfield 12, 3) := by decide +kernel
theorem dX6_addTransfer_88 : decode cX6_addTransfer 88 = .ok (.getfield 144, 3) := by decide +kernel
theorem dX6_addTransfer_91 : decode cX6_addTransfer 91 = .ok (.getfield 175, 3) := by decide +kernel
theorem dX6_addTransfer_94 : decode cX6_addTransfer 94 = .ok (.ireturn, 1) := by decide +kernel
theorem dX6_dropTransfer_0 : decode cX6_dropTransfer 0 = .ok (.aload_n 0, 1) := by decide +kernel
theorem dX6_dropTransfer_1 : decode cX6_dropTransfer 1 = .ok (.getfield 12, 3) := by decide +kernel
theorem dX6_dropTransfer_4 : decode cX6_dropTransfer 4 = .ok (.getfield 144, 3) := by decide +kernel
theorem dX6_dropTransfer_7 : decode cX6_dropTransfer 7 = .ok (.getfield 175, 3) := by decide +kernel
theorem dX6_dropTransfer_10 : decode cX6_dropTransfer 10 = .ok (.ifCond .ne 6, 3) := by decide +kernel
theorem dX6_dropTransfer_13 : decode cX6_dropTransfer 13 = .ok (.bipush (-5), 2) := by decide +kernel
theorem dX6_dropTransfer_15 : decode cX6_dropTransfer 15 = .ok (.ireturn, 1) := by decide +kernel
theorem dX6_dropTransfer_16 : decode cX6_dropTransfer 16 = .ok (.aload_n 0, 1) := by decide +kernel
theorem dX6_dropTransfer_17 : decode cX6_dropTransfer 17 = .ok (.getfield 12, 3) := by decide +kernel
theorem dX6_dropTransfer_20 : decode cX6_dropTransfer 20 = .ok (.getfield 144, 3) := by decide +kernel
theorem dX6_dropTransfer_23 : decode cX6_dropTransfer 23 = .ok (.dup, 1) := by decide +kernel
theorem dX6_dropTransfer_24 : decode cX6_dropTransfer 24 = .ok (.getfield 175, 3) := by decide +kernel
theorem dX6_dropTransfer_27 : decode cX6_dropTransfer 27 = .ok (.iconst 1, 1) := by decide +kernel
theorem dX6_dropTransfer_28 : decode cX6_dropTransfer 28 = .ok (.isub, 1) := by decide +kernel
theorem dX6_dropTransfer_29 : decode cX6_dropTransfer 29 = .ok (.putfield 175, 3) := by decide +kernel
theorem dX6_dropTransfer_32 : decode cX6_dropTransfer 32 = .ok (.aload_n 0, 1) := by decide +kernel
theorem dX6_dropTransfer_33 : decode cX6_dropTransfer 33 = .ok (.getfield 12, 3) := by decide +kernel
theorem dX6_dropTransfer_36 : decode cX6_dropTransfer 36 = .ok (.getfield 144, 3) := by decide +kernel
theorem dX6_dropTransfer_39 : decode cX6_dropTransfer 39 = .ok (.getfield 175, 3) := by decide +kernel
theorem dX6_dropTransfer_42 : decode cX6_dropTransfer 42 = .ok (.ireturn, 1) := by decide +kernel
theorem dX6_closeDeal_0 : decode cX6_closeDeal 0 = .ok (.aload_n 0, 1) := by decide +kernel
theorem dX6_closeDeal_1 : decode cX6_closeDeal 1 = .ok (.getfield 12, 3) := by decide +kernel
theorem dX6_closeDeal_4 : decode cX6_closeDeal 4 = .ok (.getfield 144, 3) := by decide +kernel
theorem dX6_closeDeal_7 : decode cX6_closeDeal 7 = .ok (.getfield 175, 3) := by decide +kernel
theorem dX6_closeDeal_10 : decode cX6_closeDeal 10 = .ok (.istore_n 1, 1) := by decide +kernel
theorem dX6_closeDeal_11 : decode cX6_closeDeal 11 = .ok (.iload_n 1, 1) := by decide +kernel
theorem dX6_closeDeal_12 : decode cX6_closeDeal 12 = .ok (.ifCond .eq 12, 3) := by decide +kernel
theorem dX6_closeDeal_15 : decode cX6_closeDeal 15 = .ok (.aload_n 0, 1) := by decide +kernel
theorem dX6_closeDeal_16 : decode cX6_closeDeal 16 = .ok (.invokevirtual 86, 3) := by decide +kernel
theorem dX6_closeDeal_19 : decode cX6_closeDeal 19 = .ok (.bipush (-6), 2) := by decide +kernel
theorem dX6_closeDeal_21 : decode cX6_closeDeal 21 = .ok (.if_icmp .eq 6, 3) := by decide +kernel
theorem dX6_closeDeal_24 : decode cX6_closeDeal 24 = .ok (.bipush (-5), 2) := by decide +kernel
theorem dX6_closeDeal_26 : decode cX6_closeDeal 26 = .ok (.ireturn, 1) := by decide +kernel
theorem dX6_closeDeal_27 : decode cX6_closeDeal 27 = .ok (.aload_n 0, 1) := by decide +kernel
theorem dX6_closeDeal_28 : decode cX6_closeDeal 28 = .ok (.getfield 12, 3) := by decide +kernel
theorem dX6_closeDeal_31 : decode cX6_closeDeal 31 = .ok (.aload_n 0, 1) := by decide +kernel
theorem dX6_closeDeal_32 : decode cX6_closeDeal 32 = .ok (.getfield 16, 3) := by decide +kernel
theorem dX6_closeDeal_35 : decode cX6_closeDeal 35 = .ok (.invokevirtual 256, 3) := by decide +kernel
theorem dX6_closeDeal_38 : decode cX6_closeDeal 38 = .ok (.aload_n 0, 1) := by decide +kernel
theorem dX6_closeDeal_39 : decode cX6_closeDeal 39 = .ok (.getfield 12, 3) := by decide +kernel
theorem dX6_closeDeal_42 : decode cX6_closeDeal 42 = .ok (.getfield 144, 3) := by decide +kernel
theorem dX6_closeDeal_45 : decode cX6_closeDeal 45 = .ok (.iconst 0, 1) := by decide +kernel
theorem dX6_closeDeal_46 : decode cX6_closeDeal 46 = .ok (.putfield 175, 3) := by decide +kernel
theorem dX6_closeDeal_49 : decode cX6_closeDeal 49 = .ok (.aload_n 0, 1) := by decide +kernel
theorem dX6_closeDeal_50 : decode cX6_closeDeal 50 = .ok (.getfield 12, 3) := by decide +kernel
theorem dX6_closeDeal_53 : decode cX6_closeDeal 53 = .ok (.dup, 1) := by decide +kernel
theorem dX6_closeDeal_54 : decode cX6_closeDeal 54 = .ok (.getfield 176, 3) := by decide +kernel
theorem dX6_closeDeal_57 : decode cX6_closeDeal 57 = .ok (.iconst 1, 1) := by decide +kernel
theorem dX6_closeDeal_58 : decode cX6_closeDeal 58 = .ok (.iadd, 1) := by decide +kernel
theorem dX6_closeDeal_59 : decode cX6_closeDeal 59 = .ok (.putfield 176, 3) := by decide +kernel
theorem dX6_closeDeal_62 : decode cX6_closeDeal 62 = .ok (.iload_n 1, 1) := by decide +kernel
theorem dX6_closeDeal_63 : decode cX6_closeDeal 63 = .ok (.ireturn, 1) := by decide +kernel
theorem dX6_rehearse_0 : decode cX6_rehearse 0 = .ok (.aload_n 0, 1) := by decide +kernel
theorem dX6_rehearse_1 : decode cX6_rehearse 1 = .ok (.getfield 16, 3) := by decide +kernel
theorem dX6_rehearse_4 : decode cX6_rehearse 4 = .ok (.aload_n 0, 1) := by decide +kernel
theorem dX6_rehearse_5 : decode cX6_rehearse 5 = .ok (.getfield 12, 3) := by decide +kernel
theorem dX6_rehearse_8 : decode cX6_rehearse 8 = .ok (.invokevirtual 256, 3) := by decide +kernel
theorem dX6_rehearse_11 : decode cX6_rehearse 11 = .ok (.iconst 0, 1) := by decide +kernel
theorem dX6_rehearse_12 : decode cX6_rehearse 12 = .ok (.istore_n 1, 1) := by decide +kernel
theorem dX6_rehearse_13 : decode cX6_rehearse 13 = .ok (.iload_n 1, 1) := by decide +kernel
theorem dX6_rehearse_14 : decode cX6_rehearse 14 = .ok (.aload_n 0, 1) := by decide +kernel
theorem dX6_rehearse_15 : decode cX6_rehearse 15 = .ok (.getfield 16, 3) := by decide +kernel
theorem dX6_rehearse_18 : decode cX6_rehearse 18 = .ok (.getfield 144, 3) := by decide +kernel
theorem dX6_rehearse_21 : decode cX6_rehearse 21 = .ok (.getfield 175, 3) := by decide +kernel
theorem dX6_rehearse_24 : decode cX6_rehearse 24 = .ok (.if_icmp .ge 26, 3) := by decide +kernel
theorem dX6_rehearse_27 : decode cX6_rehearse 27 = .ok (.aload_n 0, 1) := by decide +kernel
theorem dX6_rehearse_28 : decode cX6_rehearse 28 = .ok (.getfield 16, 3) := by decide +kernel
theorem dX6_rehearse_31 : decode cX6_rehearse 31 = .ok (.iload_n 1, 1) := by decide +kernel
theorem dX6_rehearse_32 : decode cX6_rehearse 32 = .ok (.aload_n 0, 1) := by decide +kernel
theorem dX6_rehearse_33 : decode cX6_rehearse 33 = .ok (.getfield 22, 3) := by decide +kernel
theorem dX6_rehearse_36 : decode cX6_rehearse 36 = .ok (.invokevirtual 297, 3) := by decide +kernel
theorem dX6_rehearse_39 : decode cX6_rehearse 39 = .ok (.ifCond .ne 5, 3) := by decide +kernel
theorem dX6_rehearse_42 : decode cX6_rehearse 42 = .ok (.iload_n 1, 1) := by decide +kernel
theorem dX6_rehearse_43 : decode cX6_rehearse 43 = .ok (.ireturn, 1) := by decide +kernel
theorem dX6_rehearse_44 : decode cX6_rehearse 44 = .ok (.iinc 1 1, 3) := by decide +kernel
theorem dX6_rehearse_47 : decode cX6_rehearse 47 = .ok (.goto (-34), 3) := by decide +kernel
theorem dX6_rehearse_50 : decode cX6_rehearse 50 = .ok (.bipush (-6), 2) := by decide +kernel
theorem dX6_rehearse_52 : decode cX6_rehearse 52 = .ok (.ireturn, 1) := by decide +kernel
theorem dX6_passDays_0 : decode cX6_passDays 0 = .ok (.iload_n 1, 1) := by decide +kernel
theorem dX6_passDays_1 : decode cX6_passDays 1 = .ok (.iconst 1, 1) := by decide +kernel
theorem dX6_passDays_2 : decode cX6_passDays 2 = .ok (.if_icmp .lt 9, 3) := by decide +kernel
theorem dX6_passDays_5 : decode cX6_passDays 5 = .ok (.iload_n 1, 1) := by decide +kernel
theorem dX6_passDays_6 : decode cX6_passDays 6 = .ok (.bipush 60, 2) := by decide +kernel
theorem dX6_passDays_8 : decode cX6_passDays 8 = .ok (.if_icmp .le 6, 3) := by decide +kernel
theorem dX6_passDays_11 : decode cX6_passDays 11 = .ok (.bipush (-2), 2) := by decide +kernel
theorem dX6_passDays_13 : decode cX6_passDays 13 = .ok (.ireturn, 1) := by decide +kernel
theorem dX6_passDays_14 : decode cX6_passDays 14 = .ok (.iconst 0, 1) := by decide +kernel
theorem dX6_passDays_15 : decode cX6_passDays 15 = .ok (.istore_n 2, 1) := by decide +kernel
theorem dX6_passDays_16 : decode cX6_passDays 16 = .ok (.iload_n 2, 1) := by decide +kernel
theorem dX6_passDays_17 : decode cX6_passDays 17 = .ok (.iload_n 1, 1) := by decide +kernel
theorem dX6_passDays_18 : decode cX6_passDays 18 = .ok (.if_icmp .ge 16, 3) := by decide +kernel
theorem dX6_passDays_21 : decode cX6_passDays 21 = .ok (.aload_n 0, 1) := by decide +kernel
theorem dX6_passDays_22 : decode cX6_passDays 22 = .ok (.getfield 12, 3) := by decide +kernel
theorem dX6_passDays_25 : decode cX6_passDays 25 = .ok (.invokevirtual 301, 3) := by decide +kernel
theorem dX6_passDays_28 : decode cX6_passDays 28 = .ok (.iinc 2 1, 3) := by decide +kernel
theorem dX6_passDays_31 : decode cX6_passDays 31 = .ok (.goto (-15), 3) := by decide +kernel
theorem dX6_passDays_34 : decode cX6_passDays 34 = .ok (.aload_n 0, 1) := by decide +kernel
theorem dX6_passDays_35 : decode cX6_passDays 35 = .ok (.getfield 12, 3) := by decide +kernel
theorem dX6_passDays_38 : decode cX6_passDays 38 = .ok (.getfield 156, 3) := by decide +kernel
theorem dX6_passDays_41 : decode cX6_passDays 41 = .ok (.ireturn, 1) := by decide +kernel
theorem dX6_bitsOfQuotient_0 : decode cX6_bitsOfQuotient 0 = .ok (.iload_n 0, 1) := by decide +kernel
theorem dX6_bitsOfQuotient_1 : decode cX6_bitsOfQuotient 1 = .ok (.ifCond .le 12, 3) := by decide +kernel
theorem dX6_bitsOfQuotient_4 : decode cX6_bitsOfQuotient 4 = .ok (.iload_n 1, 1) := by decide +kernel
theorem dX6_bitsOfQuotient_5 : decode cX6_bitsOfQuotient 5 = .ok (.ifCond .le 8, 3) := by decide +kernel
theorem dX6_bitsOfQuotient_8 : decode cX6_bitsOfQuotient 8 = .ok (.iload_n 0, 1) := by decide +kernel
theorem dX6_bitsOfQuotient_9 : decode cX6_bitsOfQuotient 9 = .ok (.iload_n 1, 1) := by decide +kernel
theorem dX6_bitsOfQuotient_10 : decode cX6_bitsOfQuotient 10 = .ok (.if_icmp .le 5, 3) := by decide +kernel
theorem dX6_bitsOfQuotient_13 : decode cX6_bitsOfQuotient 13 = .ok (.iconst 0, 1) := by decide +kernel
theorem dX6_bitsOfQuotient_14 : decode cX6_bitsOfQuotient 14 = .ok (.ireturn, 1) := by decide +kernel
theorem dX6_bitsOfQuotient_15 : decode cX6_bitsOfQuotient 15 = .ok (.iload_n 0, 1) := by decide +kernel
theorem dX6_bitsOfQuotient_16 : decode cX6_bitsOfQuotient 16 = .ok (.i2l, 1) := by decide +kernel
theorem dX6_bitsOfQuotient_17 : decode cX6_bitsOfQuotient 17 = .ok (.lstore_n 2, 1) := by decide +kernel
theorem dX6_bitsOfQuotient_18 : decode cX6_bitsOfQuotient 18 = .ok (.bipush 127, 2) := by decide +kernel
theorem dX6_bitsOfQuotient_20 : decode cX6_bitsOfQuotient 20 = .ok (.istore 4, 2) := by decide +kernel
theorem dX6_bitsOfQuotient_22 : decode cX6_bitsOfQuotient 22 = .ok (.lload_n 2, 1) := by decide +kernel
theorem dX6_bitsOfQuotient_23 : decode cX6_bitsOfQuotient 23 = .ok (.iload_n 1, 1) := by decide +kernel
theorem dX6_bitsOfQuotient_24 : decode cX6_bitsOfQuotient 24 = .ok (.i2l, 1) := by decide +kernel
theorem dX6_bitsOfQuotient_25 : decode cX6_bitsOfQuotient 25 = .ok (.lcmp, 1) := by decide +kernel
theorem dX6_bitsOfQuotient_26 : decode cX6_bitsOfQuotient 26 = .ok (.ifCond .ge 20, 3) := by decide +kernel
theorem dX6_bitsOfQuotient_29 : decode cX6_bitsOfQuotient 29 = .ok (.iload 4, 2) := by decide +kernel
theorem dX6_bitsOfQuotient_31 : decode cX6_bitsOfQuotient 31 = .ok (.ifCond .le 15, 3) := by decide +kernel
theorem dX6_bitsOfQuotient_34 : decode cX6_bitsOfQuotient 34 = .ok (.lload_n 2, 1) := by decide +kernel
theorem dX6_bitsOfQuotient_35 : decode cX6_bitsOfQuotient 35 = .ok (.ldc2_w 316, 3) := by decide +kernel
theorem dX6_bitsOfQuotient_38 : decode cX6_bitsOfQuotient 38 = .ok (.lmul, 1) := by decide +kernel
theorem dX6_bitsOfQuotient_39 : decode cX6_bitsOfQuotient 39 = .ok (.lstore_n 2, 1) := by decide +kernel
theorem dX6_bitsOfQuotient_40 : decode cX6_bitsOfQuotient 40 = .ok (.iinc 4 (-1), 3) := by decide +kernel
theorem dX6_bitsOfQuotient_43 : decode cX6_bitsOfQuotient 43 = .ok (.goto (-21), 3) := by decide +kernel
theorem dX6_bitsOfQuotient_46 : decode cX6_bitsOfQuotient 46 = .ok (.lload_n 2, 1) := by decide +kernel
theorem dX6_bitsOfQuotient_47 : decode cX6_bitsOfQuotient 47 = .ok (.bipush 23, 2) := by decide +kernel
theorem dX6_bitsOfQuotient_49 : decode cX6_bitsOfQuotient 49 = .ok (.lshl, 1) := by decide +kernel
theorem dX6_bitsOfQuotient_50 : decode cX6_bitsOfQuotient 50 = .ok (.lstore_n 2, 1) := by decide +kernel
theorem dX6_bitsOfQuotient_51 : decode cX6_bitsOfQuotient 51 = .ok (.ldc2_w 316, 3) := by decide +kernel
theorem dX6_bitsOfQuotient_54 : decode cX6_bitsOfQuotient 54 = .ok (.lload_n 2, 1) := by decide +kernel
theorem dX6_bitsOfQuotient_55 : decode cX6_bitsOfQuotient 55 = .ok (.lmul, 1) := by decide +kernel
theorem dX6_bitsOfQuotient_56 : decode cX6_bitsOfQuotient 56 = .ok (.iload_n 1, 1) := by decide +kernel
theorem dX6_bitsOfQuotient_57 : decode cX6_bitsOfQuotient 57 = .ok (.i2l, 1) := by decide +kernel
theorem dX6_bitsOfQuotient_58 : decode cX6_bitsOfQuotient 58 = .ok (.ladd, 1) := by decide +kernel
theorem dX6_bitsOfQuotient_59 : decode cX6_bitsOfQuotient 59 = .ok (.ldc2_w 316, 3) := by decide +kernel
theorem dX6_bitsOfQuotient_62 : decode cX6_bitsOfQuotient 62 = .ok (.iload_n 1, 1) := by decide +kernel
theorem dX6_bitsOfQuotient_63 : decode cX6_bitsOfQuotient 63 = .ok (.i2l, 1) := by decide +kernel
theorem dX6_bitsOfQuotient_64 : decode cX6_bitsOfQuotient 64 = .ok (.lmul, 1) := by decide +kernel
theorem dX6_bitsOfQuotient_65 : decode cX6_bitsOfQuotient 65 = .ok (.ldiv, 1) := by decide +kernel
theorem dX6_bitsOfQuotient_66 : decode cX6_bitsOfQuotient 66 = .ok (.lstore 5, 2) := by decide +kernel
theorem dX6_bitsOfQuotient_68 : decode cX6_bitsOfQuotient 68 = .ok (.iload 4, 2) := by decide +kernel
theorem dX6_bitsOfQuotient_70 : decode cX6_bitsOfQuotient 70 = .ok (.iconst 1, 1) := by decide +kernel
theorem dX6_bitsOfQuotient_71 : decode cX6_bitsOfQuotient 71 = .ok (.isub, 1) := by decide +kernel
theorem dX6_bitsOfQuotient_72 : decode cX6_bitsOfQuotient 72 = .ok (.bipush 23, 2) := by decide +kernel
theorem dX6_bitsOfQuotient_74 : decode cX6_bitsOfQuotient 74 = .ok (.ishl, 1) := by decide +kernel
theorem dX6_bitsOfQuotient_75 : decode cX6_bitsOfQuotient 75 = .ok (.lload 5, 2) := by decide +kernel
theorem dX6_bitsOfQuotient_77 : decode cX6_bitsOfQuotient 77 = .ok (.l2i, 1) := by decide +kernel
theorem dX6_bitsOfQuotient_78 : decode cX6_bitsOfQuotient 78 = .ok (.iadd, 1) := by decide +kernel
theorem dX6_bitsOfQuotient_79 : decode cX6_bitsOfQuotient 79 = .ok (.ireturn, 1) := by decide +kernel
theorem dJ9_max_7cf53_0 : decode cJ9_max_7cf53 0 = .ok (.iload_n 0, 1) := by decide +kernel
theorem dJ9_max_7cf53_1 : decode cJ9_max_7cf53 1 = .ok (.iload_n 1, 1) := by decide +kernel
theorem dJ9_max_7cf53_2 : decode cJ9_max_7cf53 2 = .ok (.if_icmp .lt 7, 3) := by decide +kernel
theorem dJ9_max_7cf53_5 : decode cJ9_max_7cf53 5 = .ok (.iload_n 0, 1) := by decide +kernel
theorem dJ9_max_7cf53_6 : decode cJ9_max_7cf53 6 = .ok (.goto 4, 3) := by decide +kernel
theorem dJ9_max_7cf53_9 : decode cJ9_max_7cf53 9 = .ok (.iload_n 1, 1) := by decide +kernel
theorem dJ9_max_7cf53_10 : decode cJ9_max_7cf53 10 = .ok (.ireturn, 1) := by decide +kernel
theorem dJ9_min_7cf53_0 : decode cJ9_min_7cf53 0 = .ok (.iload_n 0, 1) := by decide +kernel
theorem dJ9_min_7cf53_1 : decode cJ9_min_7cf53 1 = .ok (.iload_n 1, 1) := by decide +kernel
theorem dJ9_min_7cf53_2 : decode cJ9_min_7cf53 2 = .ok (.if_icmp .gt 7, 3) := by decide +kernel
theorem dJ9_min_7cf53_5 : decode cJ9_min_7cf53 5 = .ok (.iload_n 0, 1) := by decide +kernel
theorem dJ9_min_7cf53_6 : decode cJ9_min_7cf53 6 = .ok (.goto 4, 3) := by decide +kernel
theorem dJ9_min_7cf53_9 : decode cJ9_min_7cf53 9 = .ok (.iload_n 1, 1) := by decide +kernel
theorem dJ9_min_7cf53_10 : decode cJ9_min_7cf53 10 = .ok (.ireturn, 1) := by decide +kernel
theorem dL_cell_0 : decode cL_cell 0 = .ok (.aload_n 0, 1) := by decide +kernel
theorem dL_cell_1 : decode cL_cell 1 = .ok (.arraylength, 1) := by decide +kernel
theorem dL_cell_2 : decode cL_cell 2 = .ok (.ifCond .ne 12, 3) := by decide +kernel
theorem dL_cell_5 : decode cL_cell 5 = .ok (.iload_n 1, 1) := by decide +kernel
theorem dL_cell_6 : decode cL_cell 6 = .ok (.bipush 37, 2) := by decide +kernel
theorem dL_cell_8 : decode cL_cell 8 = .ok (.imul, 1) := by decide +kernel
theorem dL_cell_9 : decode cL_cell 9 = .ok (.iconst 5, 1) := by decide +kernel
theorem dL_cell_10 : decode cL_cell 10 = .ok (.iadd, 1) := by decide +kernel
theorem dL_cell_11 : decode cL_cell 11 = .ok (.goto 17, 3) := by decide +kernel
theorem dL_cell_14 : decode cL_cell 14 = .ok (.aload_n 0, 1) := by decide +kernel
theorem dL_cell_15 : decode cL_cell 15 = .ok (.iload_n 1, 1) := by decide +kernel
theorem dL_cell_16 : decode cL_cell 16 = .ok (.aload_n 0, 1) := by decide +kernel
theorem dL_cell_17 : decode cL_cell 17 = .ok (.arraylength, 1) := by decide +kernel
theorem dL_cell_18 : decode cL_cell 18 = .ok (.irem, 1) := by decide +kernel
theorem dL_cell_19 : decode cL_cell 19 = .ok (.iaload, 1) := by decide +kernel
theorem dL_cell_20 : decode cL_cell 20 = .ok (.iload_n 1, 1) := by decide +kernel
theorem dL_cell_21 : decode cL_cell 21 = .ok (.bipush 7, 2) := by decide +kernel
theorem dL_cell_23 : decode cL_cell 23 = .ok (.irem, 1) := by decide +kernel
theorem dL_cell_24 : decode cL_cell 24 = .ok (.ishr, 1) := by decide +kernel
theorem dL_cell_25 : decode cL_cell 25 = .ok (.ldc 7, 2) := by decide +kernel
theorem dL_cell_27 : decode cL_cell 27 = .ok (.iand, 1) := by decide +kernel
theorem dL_cell_28 : decode cL_cell 28 = .ok (.iload_n 2, 1) := by decide +kernel
theorem dL_cell_29 : decode cL_cell 29 = .ok (.irem, 1) := by decide +kernel
theorem dL_cell_30 : decode cL_cell 30 = .ok (.ireturn, 1) := by decide +kernel
theorem dL_firstOf_0 : decode cL_firstOf 0 = .ok (.aload_n 0, 1) := by decide +kernel
theorem dL_firstOf_1 : decode cL_firstOf 1 = .ok (.iconst 1, 1) := by decide +kernel
theorem dL_firstOf_2 : decode cL_firstOf 2 = .ok (.iload_n 1, 1) := by decide +kernel
theorem dL_firstOf_3 : decode cL_firstOf 3 = .ok (.iadd, 1) := by decide +kernel
theorem dL_firstOf_4 : decode cL_firstOf 4 = .ok (.iaload, 1) := by decide +kernel
theorem dL_firstOf_5 : decode cL_firstOf 5 = .ok (.bipush 16, 2) := by decide +kernel
theorem dL_firstOf_7 : decode cL_firstOf 7 = .ok (.idiv, 1) := by decide +kernel
theorem dL_firstOf_8 : decode cL_firstOf 8 = .ok (.ireturn, 1) := by decide +kernel
theorem dL_ownerOf_0 : decode cL_ownerOf 0 = .ok (.aload_n 0, 1) := by decide +kernel
theorem dL_ownerOf_1 : decode cL_ownerOf 1 = .ok (.iconst 1, 1) := by decide +kernel
theorem dL_ownerOf_2 : decode cL_ownerOf 2 = .ok (.iload_n 1, 1) := by decide +kernel
theorem dL_ownerOf_3 : decode cL_ownerOf 3 = .ok (.iadd, 1) := by decide +kernel
theorem dL_ownerOf_4 : decode cL_ownerOf 4 = .ok (.iaload, 1) := by decide +kernel
theorem dL_ownerOf_5 : decode cL_ownerOf 5 = .ok (.bipush 16, 2) := by decide +kernel
theorem dL_ownerOf_7 : decode cL_ownerOf 7 = .ok (.irem, 1) := by decide +kernel
theorem dL_ownerOf_8 : decode cL_ownerOf 8 = .ok (.ireturn, 1) := by decide +kernel
