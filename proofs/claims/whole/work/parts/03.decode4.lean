theorem dX7_ownerOf_10 : decode cX7_ownerOf 10 = .ok (.iconst 1, 1) := by decide +kernel
theorem dX7_ownerOf_11 : decode cX7_ownerOf 11 = .ok (.iadd, 1) := by decide +kernel
theorem dX7_ownerOf_12 : decode cX7_ownerOf 12 = .ok (.iaload, 1) := by decide +kernel
theorem dX7_ownerOf_13 : decode cX7_ownerOf 13 = .ok (.ireturn, 1) := by decide +kernel
theorem dX7_behind_0 : decode cX7_behind 0 = .ok (.iload_n 1, 1) := by decide +kernel
theorem dX7_behind_1 : decode cX7_behind 1 = .ok (.iconst 1, 1) := by decide +kernel
theorem dX7_behind_2 : decode cX7_behind 2 = .ok (.iadd, 1) := by decide +kernel
theorem dX7_behind_3 : decode cX7_behind 3 = .ok (.aload_n 0, 1) := by decide +kernel
theorem dX7_behind_4 : decode cX7_behind 4 = .ok (.getfield 7, 3) := by decide +kernel
theorem dX7_behind_7 : decode cX7_behind 7 = .ok (.bipush 7, 2) := by decide +kernel
theorem dX7_behind_9 : decode cX7_behind 9 = .ok (.iaload, 1) := by decide +kernel
theorem dX7_behind_10 : decode cX7_behind 10 = .ok (.if_icmp .ge 13, 3) := by decide +kernel
theorem dX7_behind_13 : decode cX7_behind 13 = .ok (.aload_n 0, 1) := by decide +kernel
theorem dX7_behind_14 : decode cX7_behind 14 = .ok (.iload_n 1, 1) := by decide +kernel
theorem dX7_behind_15 : decode cX7_behind 15 = .ok (.iconst 1, 1) := by decide +kernel
theorem dX7_behind_16 : decode cX7_behind 16 = .ok (.iadd, 1) := by decide +kernel
theorem dX7_behind_17 : decode cX7_behind 17 = .ok (.invokevirtual 81, 3) := by decide +kernel
theorem dX7_behind_20 : decode cX7_behind 20 = .ok (.goto 6, 3) := by decide +kernel
theorem dX7_behind_23 : decode cX7_behind 23 = .ok (.sipush 10000, 3) := by decide +kernel
theorem dX7_behind_26 : decode cX7_behind 26 = .ok (.ireturn, 1) := by decide +kernel
theorem dX7_length_0 : decode cX7_length 0 = .ok (.aload_n 0, 1) := by decide +kernel
theorem dX7_length_1 : decode cX7_length 1 = .ok (.iload_n 1, 1) := by decide +kernel
theorem dX7_length_2 : decode cX7_length 2 = .ok (.invokevirtual 84, 3) := by decide +kernel
theorem dX7_length_5 : decode cX7_length 5 = .ok (.aload_n 0, 1) := by decide +kernel
theorem dX7_length_6 : decode cX7_length 6 = .ok (.iload_n 1, 1) := by decide +kernel
theorem dX7_length_7 : decode cX7_length 7 = .ok (.invokevirtual 81, 3) := by decide +kernel
theorem dX7_length_10 : decode cX7_length 10 = .ok (.isub, 1) := by decide +kernel
theorem dX7_length_11 : decode cX7_length 11 = .ok (.ireturn, 1) := by decide +kernel
theorem dX7_rangesNow_0 : decode cX7_rangesNow 0 = .ok (.iconst 0, 1) := by decide +kernel
theorem dX7_rangesNow_1 : decode cX7_rangesNow 1 = .ok (.istore_n 1, 1) := by decide +kernel
theorem dX7_rangesNow_2 : decode cX7_rangesNow 2 = .ok (.iconst 0, 1) := by decide +kernel
theorem dX7_rangesNow_3 : decode cX7_rangesNow 3 = .ok (.istore_n 2, 1) := by decide +kernel
theorem dX7_rangesNow_4 : decode cX7_rangesNow 4 = .ok (.iload_n 2, 1) := by decide +kernel
theorem dX7_rangesNow_5 : decode cX7_rangesNow 5 = .ok (.aload_n 0, 1) := by decide +kernel
theorem dX7_rangesNow_6 : decode cX7_rangesNow 6 = .ok (.getfield 7, 3) := by decide +kernel
theorem dX7_rangesNow_9 : decode cX7_rangesNow 9 = .ok (.bipush 7, 2) := by decide +kernel
theorem dX7_rangesNow_11 : decode cX7_rangesNow 11 = .ok (.iaload, 1) := by decide +kernel
theorem dX7_rangesNow_12 : decode cX7_rangesNow 12 = .ok (.if_icmp .ge 25, 3) := by decide +kernel
theorem dX7_rangesNow_15 : decode cX7_rangesNow 15 = .ok (.iload_n 1, 1) := by decide +kernel
theorem dX7_rangesNow_16 : decode cX7_rangesNow 16 = .ok (.aload_n 0, 1) := by decide +kernel
theorem dX7_rangesNow_17 : decode cX7_rangesNow 17 = .ok (.iload_n 2, 1) := by decide +kernel
theorem dX7_rangesNow_18 : decode cX7_rangesNow 18 = .ok (.invokevirtual 87, 3) := by decide +kernel
theorem dX7_rangesNow_21 : decode cX7_rangesNow 21 = .ok (.ifCond .lt 7, 3) := by decide +kernel
theorem dX7_rangesNow_24 : decode cX7_rangesNow 24 = .ok (.iconst 1, 1) := by decide +kernel
theorem dX7_rangesNow_25 : decode cX7_rangesNow 25 = .ok (.goto 4, 3) := by decide +kernel
theorem dX7_rangesNow_28 : decode cX7_rangesNow 28 = .ok (.iconst 0, 1) := by decide +kernel
theorem dX7_rangesNow_29 : decode cX7_rangesNow 29 = .ok (.iadd, 1) := by decide +kernel
theorem dX7_rangesNow_30 : decode cX7_rangesNow 30 = .ok (.istore_n 1, 1) := by decide +kernel
theorem dX7_rangesNow_31 : decode cX7_rangesNow 31 = .ok (.iinc 2 1, 3) := by decide +kernel
theorem dX7_rangesNow_34 : decode cX7_rangesNow 34 = .ok (.goto (-30), 3) := by decide +kernel
theorem dX7_rangesNow_37 : decode cX7_rangesNow 37 = .ok (.iload_n 1, 1) := by decide +kernel
theorem dX7_rangesNow_38 : decode cX7_rangesNow 38 = .ok (.ireturn, 1) := by decide +kernel
theorem dX7_lay_0 : decode cX7_lay 0 = .ok (.iload_n 1, 1) := by decide +kernel
theorem dX7_lay_1 : decode cX7_lay 1 = .ok (.iload_n 2, 1) := by decide +kernel
theorem dX7_lay_2 : decode cX7_lay 2 = .ok (.if_icmp .ge 55, 3) := by decide +kernel
theorem dX7_lay_5 : decode cX7_lay 5 = .ok (.aload_n 0, 1) := by decide +kernel
theorem dX7_lay_6 : decode cX7_lay 6 = .ok (.getfield 90, 3) := by decide +kernel
theorem dX7_lay_9 : decode cX7_lay 9 = .ok (.ifCond .eq 18, 3) := by decide +kernel
theorem dX7_lay_12 : decode cX7_lay 12 = .ok (.aload_n 0, 1) := by decide +kernel
theorem dX7_lay_13 : decode cX7_lay 13 = .ok (.getfield 48, 3) := by decide +kernel
theorem dX7_lay_16 : decode cX7_lay 16 = .ok (.aload_n 0, 1) := by decide +kernel
theorem dX7_lay_17 : decode cX7_lay 17 = .ok (.getfield 90, 3) := by decide +kernel
theorem dX7_lay_20 : decode cX7_lay 20 = .ok (.iconst 1, 1) := by decide +kernel
theorem dX7_lay_21 : decode cX7_lay 21 = .ok (.isub, 1) := by decide +kernel
theorem dX7_lay_22 : decode cX7_lay 22 = .ok (.iaload, 1) := by decide +kernel
theorem dX7_lay_23 : decode cX7_lay 23 = .ok (.iload_n 3, 1) := by decide +kernel
theorem dX7_lay_24 : decode cX7_lay 24 = .ok (.if_icmp .eq 33, 3) := by decide +kernel
theorem dX7_lay_27 : decode cX7_lay 27 = .ok (.aload_n 0, 1) := by decide +kernel
theorem dX7_lay_28 : decode cX7_lay 28 = .ok (.getfield 45, 3) := by decide +kernel
theorem dX7_lay_31 : decode cX7_lay 31 = .ok (.aload_n 0, 1) := by decide +kernel
theorem dX7_lay_32 : decode cX7_lay 32 = .ok (.getfield 90, 3) := by decide +kernel
theorem dX7_lay_35 : decode cX7_lay 35 = .ok (.iload_n 1, 1) := by decide +kernel
theorem dX7_lay_36 : decode cX7_lay 36 = .ok (.iastore, 1) := by decide +kernel
theorem dX7_lay_37 : decode cX7_lay 37 = .ok (.aload_n 0, 1) := by decide +kernel
theorem dX7_lay_38 : decode cX7_lay 38 = .ok (.getfield 48, 3) := by decide +kernel
theorem dX7_lay_41 : decode cX7_lay 41 = .ok (.aload_n 0, 1) := by decide +kernel
theorem dX7_lay_42 : decode cX7_lay 42 = .ok (.getfield 90, 3) := by decide +kernel
theorem dX7_lay_45 : decode cX7_lay 45 = .ok (.iload_n 3, 1) := by decide +kernel
theorem dX7_lay_46 : decode cX7_lay 46 = .ok (.iastore, 1) := by decide +kernel
theorem dX7_lay_47 : decode cX7_lay 47 = .ok (.aload_n 0, 1) := by decide +kernel
theorem dX7_lay_48 : decode cX7_lay 48 = .ok (.dup, 1) := by decide +kernel
theorem dX7_lay_49 : decode cX7_lay 49 = .ok (.getfield 90, 3) := by decide +kernel
theorem dX7_lay_52 : decode cX7_lay 52 = .ok (.iconst 1, 1) := by decide +kernel
theorem dX7_lay_53 : decode cX7_lay 53 = .ok (.iadd, 1) := by decide +kernel
theorem dX7_lay_54 : decode cX7_lay 54 = .ok (.putfield 90, 3) := by decide +kernel
theorem dX7_lay_57 : decode cX7_lay 57 = .ok (.return_, 1) := by decide +kernel
theorem dX7_layRow_0 : decode cX7_layRow 0 = .ok (.aload_n 0, 1) := by decide +kernel
theorem dX7_layRow_1 : decode cX7_layRow 1 = .ok (.iconst 0, 1) := by decide +kernel
theorem dX7_layRow_2 : decode cX7_layRow 2 = .ok (.putfield 90, 3) := by decide +kernel
theorem dX7_layRow_5 : decode cX7_layRow 5 = .ok (.iconst 0, 1) := by decide +kernel
theorem dX7_layRow_6 : decode cX7_layRow 6 = .ok (.istore 4, 2) := by decide +kernel
theorem dX7_layRow_8 : decode cX7_layRow 8 = .ok (.iload 4, 2) := by decide +kernel
theorem dX7_layRow_10 : decode cX7_layRow 10 = .ok (.aload_n 0, 1) := by decide +kernel
theorem dX7_layRow_11 : decode cX7_layRow 11 = .ok (.getfield 7, 3) := by decide +kernel
theorem dX7_layRow_14 : decode cX7_layRow 14 = .ok (.bipush 7, 2) := by decide +kernel
theorem dX7_layRow_16 : decode cX7_layRow 16 = .ok (.iaload, 1) := by decide +kernel
theorem dX7_layRow_17 : decode cX7_layRow 17 = .ok (.if_icmp .ge 92, 3) := by decide +kernel
theorem dX7_layRow_20 : decode cX7_layRow 20 = .ok (.aload_n 0, 1) := by decide +kernel
theorem dX7_layRow_21 : decode cX7_layRow 21 = .ok (.iload 4, 2) := by decide +kernel
theorem dX7_layRow_23 : decode cX7_layRow 23 = .ok (.invokevirtual 81, 3) := by decide +kernel
theorem dX7_layRow_26 : decode cX7_layRow 26 = .ok (.istore 5, 2) := by decide +kernel
theorem dX7_layRow_28 : decode cX7_layRow 28 = .ok (.aload_n 0, 1) := by decide +kernel
theorem dX7_layRow_29 : decode cX7_layRow 29 = .ok (.iload 4, 2) := by decide +kernel
theorem dX7_layRow_31 : decode cX7_layRow 31 = .ok (.invokevirtual 84, 3) := by decide +kernel
theorem dX7_layRow_34 : decode cX7_layRow 34 = .ok (.istore 6, 2) := by decide +kernel
theorem dX7_layRow_36 : decode cX7_layRow 36 = .ok (.aload_n 0, 1) := by decide +kernel
theorem dX7_layRow_37 : decode cX7_layRow 37 = .ok (.iload 5, 2) := by decide +kernel
theorem dX7_layRow_39 : decode cX7_layRow 39 = .ok (.iload 6, 2) := by decide +kernel
theorem dX7_layRow_41 : decode cX7_layRow 41 = .ok (.iload_n 1, 1) := by decide +kernel
theorem dX7_layRow_42 : decode cX7_layRow 42 = .ok (.if_icmp .ge 8, 3) := by decide +kernel
theorem dX7_layRow_45 : decode cX7_layRow 45 = .ok (.iload 6, 2) := by decide +kernel
theorem dX7_layRow_47 : decode cX7_layRow 47 = .ok (.goto 4, 3) := by decide +kernel
theorem dX7_layRow_50 : decode cX7_layRow 50 = .ok (.iload_n 1, 1) := by decide +kernel
theorem dX7_layRow_51 : decode cX7_layRow 51 = .ok (.aload_n 0, 1) := by decide +kernel
theorem dX7_layRow_52 : decode cX7_layRow 52 = .ok (.iload 4, 2) := by decide +kernel
theorem dX7_layRow_54 : decode cX7_layRow 54 = .ok (.invokevirtual 87, 3) := by decide +kernel
theorem dX7_layRow_57 : decode cX7_layRow 57 = .ok (.invokevirtual 93, 3) := by decide +kernel
theorem dX7_layRow_60 : decode cX7_layRow 60 = .ok (.iload_n 1, 1) := by decide +kernel
theorem dX7_layRow_61 : decode cX7_layRow 61 = .ok (.iload 5, 2) := by decide +kernel
theorem dX7_layRow_63 : decode cX7_layRow 63 = .ok (.if_icmp .lt 16, 3) := by decide +kernel
theorem dX7_layRow_66 : decode cX7_layRow 66 = .ok (.iload_n 1, 1) := by decide +kernel
theorem dX7_layRow_67 : decode cX7_layRow 67 = .ok (.iload 6, 2) := by decide +kernel
theorem dX7_layRow_69 : decode cX7_layRow 69 = .ok (.if_icmp .ge 10, 3) := by decide +kernel
theorem dX7_layRow_72 : decode cX7_layRow 72 = .ok (.aload_n 0, 1) := by decide +kernel
theorem dX7_layRow_73 : decode cX7_layRow 73 = .ok (.iload_n 1, 1) := by decide +kernel
theorem dX7_layRow_74 : decode cX7_layRow 74 = .ok (.iload_n 2, 1) := by decide +kernel
theorem dX7_layRow_75 : decode cX7_layRow 75 = .ok (.iload_n 3, 1) := by decide +kernel
theorem dX7_layRow_76 : decode cX7_layRow 76 = .ok (.invokevirtual 93, 3) := by decide +kernel
theorem dX7_layRow_79 : decode cX7_layRow 79 = .ok (.aload_n 0, 1) := by decide +kernel
theorem dX7_layRow_80 : decode cX7_layRow 80 = .ok (.iload 5, 2) := by decide +kernel
theorem dX7_layRow_82 : decode cX7_layRow 82 = .ok (.iload_n 2, 1) := by decide +kernel
theorem dX7_layRow_83 : decode cX7_layRow 83 = .ok (.if_icmp .le 8, 3) := by decide +kernel
theorem dX7_layRow_86 : decode cX7_layRow 86 = .ok (.iload 5, 2) := by decide +kernel
theorem dX7_layRow_88 : decode cX7_layRow 88 = .ok (.goto 4, 3) := by decide +kernel
theorem dX7_layRow_91 : decode cX7_layRow 91 = .ok (.iload_n 2, 1) := by decide +kernel
theorem dX7_layRow_92 : decode cX7_layRow 92 = .ok (.iload 6, 2) := by decide +kernel
theorem dX7_layRow_94 : decode cX7_layRow 94 = .ok (.aload_n 0, 1) := by decide +kernel
theorem dX7_layRow_95 : decode cX7_layRow 95 = .ok (.iload 4, 2) := by decide +kernel
theorem dX7_layRow_97 : decode cX7_layRow 97 = .ok (.invokevirtual 87, 3) := by decide +kernel
theorem dX7_layRow_100 : decode cX7_layRow 100 = .ok (.invokevirtual 93, 3) := by decide +kernel
theorem dX7_layRow_103 : decode cX7_layRow 103 = .ok (.iinc 4 1, 3) := by decide +kernel
theorem dX7_layRow_106 : decode cX7_layRow 106 = .ok (.goto (-98), 3) := by decide +kernel
theorem dX7_layRow_109 : decode cX7_layRow 109 = .ok (.return_, 1) := by decide +kernel
theorem dX7_rangesInRow_0 : decode cX7_rangesInRow 0 = .ok (.iconst 0, 1) := by decide +kernel
theorem dX7_rangesInRow_1 : decode cX7_rangesInRow 1 = .ok (.istore_n 1, 1) := by decide +kernel
theorem dX7_rangesInRow_2 : decode cX7_rangesInRow 2 = .ok (.iconst 0, 1) := by decide +kernel
theorem dX7_rangesInRow_3 : decode cX7_rangesInRow 3 = .ok (.istore_n 2, 1) := by decide +kernel
theorem dX7_rangesInRow_4 : decode cX7_rangesInRow 4 = .ok (.iload_n 2, 1) := by decide +kernel
theorem dX7_rangesInRow_5 : decode cX7_rangesInRow 5 = .ok (.aload_n 0, 1) := by decide +kernel
theorem dX7_rangesInRow_6 : decode cX7_rangesInRow 6 = .ok (.getfield 90, 3) := by decide +kernel
theorem dX7_rangesInRow_9 : decode cX7_rangesInRow 9 = .ok (.if_icmp .ge 26, 3) := by decide +kernel
theorem dX7_rangesInRow_12 : decode cX7_rangesInRow 12 = .ok (.iload_n 1, 1) := by decide +kernel
theorem dX7_rangesInRow_13 : decode cX7_rangesInRow 13 = .ok (.aload_n 0, 1) := by decide +kernel
theorem dX7_rangesInRow_14 : decode cX7_rangesInRow 14 = .ok (.getfield 48, 3) := by decide +kernel
theorem dX7_rangesInRow_17 : decode cX7_rangesInRow 17 = .ok (.iload_n 2, 1) := by decide +kernel
theorem dX7_rangesInRow_18 : decode cX7_rangesInRow 18 = .ok (.iaload, 1) := by decide +kernel
theorem dX7_rangesInRow_19 : decode cX7_rangesInRow 19 = .ok (.ifCond .lt 7, 3) := by decide +kernel
theorem dX7_rangesInRow_22 : decode cX7_rangesInRow 22 = .ok (.iconst 1, 1) := by decide +kernel
theorem dX7_rangesInRow_23 : decode cX7_rangesInRow 23 = .ok (.goto 4, 3) := by decide +kernel
theorem dX7_rangesInRow_26 : decode cX7_rangesInRow 26 = .ok (.iconst 0, 1) := by decide +kernel
theorem dX7_rangesInRow_27 : decode cX7_rangesInRow 27 = .ok (.iadd, 1) := by decide +kernel
theorem dX7_rangesInRow_28 : decode cX7_rangesInRow 28 = .ok (.istore_n 1, 1) := by decide +kernel
theorem dX7_rangesInRow_29 : decode cX7_rangesInRow 29 = .ok (.iinc 2 1, 3) := by decide +kernel
theorem dX7_rangesInRow_32 : decode cX7_rangesInRow 32 = .ok (.goto (-28), 3) := by decide +kernel
theorem dX7_rangesInRow_35 : decode cX7_rangesInRow 35 = .ok (.iload_n 1, 1) := by decide +kernel
theorem dX7_rangesInRow_36 : decode cX7_rangesInRow 36 = .ok (.ireturn, 1) := by decide +kernel
theorem dX7_takeRow_0 : decode cX7_takeRow 0 = .ok (.aload_n 0, 1) := by decide +kernel
theorem dX7_takeRow_1 : decode cX7_takeRow 1 = .ok (.getfield 7, 3) := by decide +kernel
theorem dX7_takeRow_4 : decode cX7_takeRow 4 = .ok (.bipush 7, 2) := by decide +kernel
theorem dX7_takeRow_6 : decode cX7_takeRow 6 = .ok (.aload_n 0, 1) := by decide +kernel
theorem dX7_takeRow_7 : decode cX7_takeRow 7 = .ok (.getfield 90, 3) := by decide +kernel
theorem dX7_takeRow_10 : decode cX7_takeRow 10 = .ok (.iastore, 1) := by decide +kernel
theorem dX7_takeRow_11 : decode cX7_takeRow 11 = .ok (.iconst 0, 1) := by decide +kernel
theorem dX7_takeRow_12 : decode cX7_takeRow 12 = .ok (.istore_n 1, 1) := by decide +kernel
theorem dX7_takeRow_13 : decode cX7_takeRow 13 = .ok (.iload_n 1, 1) := by decide +kernel
theorem dX7_takeRow_14 : decode cX7_takeRow 14 = .ok (.aload_n 0, 1) := by decide +kernel
theorem dX7_takeRow_15 : decode cX7_takeRow 15 = .ok (.getfield 90, 3) := by decide +kernel
theorem dX7_takeRow_18 : decode cX7_takeRow 18 = .ok (.if_icmp .ge 45, 3) := by decide +kernel
theorem dX7_takeRow_21 : decode cX7_takeRow 21 = .ok (.aload_n 0, 1) := by decide +kernel
theorem dX7_takeRow_22 : decode cX7_takeRow 22 = .ok (.getfield 7, 3) := by decide +kernel
theorem dX7_takeRow_25 : decode cX7_takeRow 25 = .ok (.bipush 100, 2) := by decide +kernel
theorem dX7_takeRow_27 : decode cX7_takeRow 27 = .ok (.iconst 2, 1) := by decide +kernel
theorem dX7_takeRow_28 : decode cX7_takeRow 28 = .ok (.iload_n 1, 1) := by decide +kernel
theorem dX7_takeRow_29 : decode cX7_takeRow 29 = .ok (.imul, 1) := by decide +kernel
theorem dX7_takeRow_30 : decode cX7_takeRow 30 = .ok (.iadd, 1) := by decide +kernel
theorem dX7_takeRow_31 : decode cX7_takeRow 31 = .ok (.aload_n 0, 1) := by decide +kernel
theorem dX7_takeRow_32 : decode cX7_takeRow 32 = .ok (.getfield 45, 3) := by decide +kernel
theorem dX7_takeRow_35 : decode cX7_takeRow 35 = .ok (.iload_n 1, 1) := by decide +kernel
theorem dX7_takeRow_36 : decode cX7_takeRow 36 = .ok (.iaload, 1) := by decide +kernel
theorem dX7_takeRow_37 : decode cX7_takeRow 37 = .ok (.iastore, 1) := by decide +kernel
theorem dX7_takeRow_38 : decode cX7_takeRow 38 = .ok (.aload_n 0, 1) := by decide +kernel
theorem dX7_takeRow_39 : decode cX7_takeRow 39 = .ok (.getfield 7, 3) := by decide +kernel
theorem dX7_takeRow_42 : decode cX7_takeRow 42 = .ok (.bipush 100, 2) := by decide +kernel
theorem dX7_takeRow_44 : decode cX7_takeRow 44 = .ok (.iconst 2, 1) := by decide +kernel
theorem dX7_takeRow_45 : decode cX7_takeRow 45 = .ok (.iload_n 1, 1) := by decide +kernel
theorem dX7_takeRow_46 : decode cX7_takeRow 46 = .ok (.imul, 1) := by decide +kernel
theorem dX7_takeRow_47 : decode cX7_takeRow 47 = .ok (.iadd, 1) := by decide +kernel
theorem dX7_takeRow_48 : decode cX7_takeRow 48 = .ok (.iconst 1, 1) := by decide +kernel
theorem dX7_takeRow_49 : decode cX7_takeRow 49 = .ok (.iadd, 1) := by decide +kernel
theorem dX7_takeRow_50 : decode cX7_takeRow 50 = .ok (.aload_n 0, 1) := by decide +kernel
theorem dX7_takeRow_51 : decode cX7_takeRow 51 = .ok (.getfield 48, 3) := by decide +kernel
theorem dX7_takeRow_54 : decode cX7_takeRow 54 = .ok (.iload_n 1, 1) := by decide +kernel
theorem dX7_takeRow_55 : decode cX7_takeRow 55 = .ok (.iaload, 1) := by decide +kernel
theorem dX7_takeRow_56 : decode cX7_takeRow 56 = .ok (.iastore, 1) := by decide +kernel
theorem dX7_takeRow_57 : decode cX7_takeRow 57 = .ok (.iinc 1 1, 3) := by decide +kernel
theorem dX7_takeRow_60 : decode cX7_takeRow 60 = .ok (.goto (-47), 3) := by decide +kernel
theorem dX7_takeRow_63 : decode cX7_takeRow 63 = .ok (.return_, 1) := by decide +kernel
theorem dX7_isPiece_0 : decode cX7_isPiece 0 = .ok (.iload_n 0, 1) := by decide +kernel
theorem dX7_isPiece_1 : decode cX7_isPiece 1 = .ok (.iconst 0, 1) := by decide +kernel
theorem dX7_isPiece_2 : decode cX7_isPiece 2 = .ok (.sipush 9999, 3) := by decide +kernel
theorem dX7_isPiece_5 : decode cX7_isPiece 5 = .ok (.invokestatic 62, 3) := by decide +kernel
theorem dX7_isPiece_8 : decode cX7_isPiece 8 = .ok (.ifCond .eq 27, 3) := by decide +kernel
theorem dX7_isPiece_11 : decode cX7_isPiece 11 = .ok (.iload_n 1, 1) := by decide +kernel
theorem dX7_isPiece_12 : decode cX7_isPiece 12 = .ok (.iconst 1, 1) := by decide +kernel
theorem dX7_isPiece_13 : decode cX7_isPiece 13 = .ok (.sipush 10000, 3) := by decide +kernel
theorem dX7_isPiece_16 : decode cX7_isPiece 16 = .ok (.invokestatic 62, 3) := by decide +kernel
theorem dX7_isPiece_19 : decode cX7_isPiece 19 = .ok (.ifCond .eq 16, 3) := by decide +kernel
theorem dX7_isPiece_22 : decode cX7_isPiece 22 = .ok (.iload_n 1, 1) := by decide +kernel
theorem dX7_isPiece_23 : decode cX7_isPiece 23 = .ok (.sipush 10000, 3) := by decide +kernel
theorem dX7_isPiece_26 : decode cX7_isPiece 26 = .ok (.iload_n 0, 1) := by decide +kernel
theorem dX7_isPiece_27 : decode cX7_isPiece 27 = .ok (.isub, 1) := by decide +kernel
theorem dX7_isPiece_28 : decode cX7_isPiece 28 = .ok (.if_icmp .gt 7, 3) := by decide +kernel
theorem dX7_isPiece_31 : decode cX7_isPiece 31 = .ok (.iconst 1, 1) := by decide +kernel
theorem dX7_isPiece_32 : decode cX7_isPiece 32 = .ok (.goto 4, 3) := by decide +kernel
theorem dX7_isPiece_35 : decode cX7_isPiece 35 = .ok (.iconst 0, 1) := by decide +kernel
theorem dX7_isPiece_36 : decode cX7_isPiece 36 = .ok (.ireturn, 1) := by decide +kernel
theorem dX7_metersIn_0 : decode cX7_metersIn 0 = .ok (.iconst 0, 1) := by decide +kernel
theorem dX7_metersIn_1 : decode cX7_metersIn 1 = .ok (.istore 4, 2) := by decide +kernel
theorem dX7_metersIn_3 : decode cX7_metersIn 3 = .ok (.iconst 0, 1) := by decide +kernel
theorem dX7_metersIn_4 : decode cX7_metersIn 4 = .ok (.istore 5, 2) := by decide +kernel
theorem dX7_metersIn_6 : decode cX7_metersIn 6 = .ok (.iload 5, 2) := by decide +kernel
theorem dX7_metersIn_8 : decode cX7_metersIn 8 = .ok (.aload_n 0, 1) := by decide +kernel
theorem dX7_metersIn_9 : decode cX7_metersIn 9 = .ok (.getfield 7, 3) := by decide +kernel
theorem dX7_metersIn_12 : decode cX7_metersIn 12 = .ok (.bipush 7, 2) := by decide +kernel
theorem dX7_metersIn_14 : decode cX7_metersIn 14 = .ok (.iaload, 1) := by decide +kernel
theorem dX7_metersIn_15 : decode cX7_metersIn 15 = .ok (.if_icmp .ge 84, 3) := by decide +kernel
theorem dX7_metersIn_18 : decode cX7_metersIn 18 = .ok (.aload_n 0, 1) := by decide +kernel
theorem dX7_metersIn_19 : decode cX7_metersIn 19 = .ok (.iload 5, 2) := by decide +kernel
theorem dX7_metersIn_21 : decode cX7_metersIn 21 = .ok (.invokevirtual 81, 3) := by decide +kernel
theorem dX7_metersIn_24 : decode cX7_metersIn 24 = .ok (.iload_n 1, 1) := by decide +kernel
theorem dX7_metersIn_25 : decode cX7_metersIn 25 = .ok (.if_icmp .le 12, 3) := by decide +kernel
theorem dX7_metersIn_28 : decode cX7_metersIn 28 = .ok (.aload_n 0, 1) := by decide +kernel
theorem dX7_metersIn_29 : decode cX7_metersIn 29 = .ok (.iload 5, 2) := by decide +kernel
theorem dX7_metersIn_31 : decode cX7_metersIn 31 = .ok (.invokevirtual 81, 3) := by decide +kernel
theorem dX7_metersIn_34 : decode cX7_metersIn 34 = .ok (.goto 4, 3) := by decide +kernel
theorem dX7_metersIn_37 : decode cX7_metersIn 37 = .ok (.iload_n 1, 1) := by decide +kernel
theorem dX7_metersIn_38 : decode cX7_metersIn 38 = .ok (.istore 6, 2) := by decide +kernel
theorem dX7_metersIn_40 : decode cX7_metersIn 40 = .ok (.aload_n 0, 1) := by decide +kernel
theorem dX7_metersIn_41 : decode cX7_metersIn 41 = .ok (.iload 5, 2) := by decide +kernel
theorem dX7_metersIn_43 : decode cX7_metersIn 43 = .ok (.invokevirtual 84, 3) := by decide +kernel
theorem dX7_metersIn_46 : decode cX7_metersIn 46 = .ok (.iload_n 2, 1) := by decide +kernel
theorem dX7_metersIn_47 : decode cX7_metersIn 47 = .ok (.if_icmp .ge 12, 3) := by decide +kernel
theorem dX7_metersIn_50 : decode cX7_metersIn 50 = .ok (.aload_n 0, 1) := by decide +kernel
theorem dX7_metersIn_51 : decode cX7_metersIn 51 = .ok (.iload 5, 2) := by decide +kernel
theorem dX7_metersIn_53 : decode cX7_metersIn 53 = .ok (.invokevirtual 84, 3) := by decide +kernel
theorem dX7_metersIn_56 : decode cX7_metersIn 56 = .ok (.goto 4, 3) := by decide +kernel
theorem dX7_metersIn_59 : decode cX7_metersIn 59 = .ok (.iload_n 2, 1) := by decide +kernel
theorem dX7_metersIn_60 : decode cX7_metersIn 60 = .ok (.istore 7, 2) := by decide +kernel
theorem dX7_metersIn_62 : decode cX7_metersIn 62 = .ok (.iload 4, 2) := by decide +kernel
theorem dX7_metersIn_64 : decode cX7_metersIn 64 = .ok (.aload_n 0, 1) := by decide +kernel
theorem dX7_metersIn_65 : decode cX7_metersIn 65 = .ok (.iload 5, 2) := by decide +kernel
theorem dX7_metersIn_67 : decode cX7_metersIn 67 = .ok (.invokevirtual 87, 3) := by decide +kernel
theorem dX7_metersIn_70 : decode cX7_metersIn 70 = .ok (.iload_n 3, 1) := by decide +kernel
theorem dX7_metersIn_71 : decode cX7_metersIn 71 = .ok (.if_icmp .ne 18, 3) := by decide +kernel
theorem dX7_metersIn_74 : decode cX7_metersIn 74 = .ok (.iload 7, 2) := by decide +kernel
theorem dX7_metersIn_76 : decode cX7_metersIn 76 = .ok (.iload 6, 2) := by decide +kernel
theorem dX7_metersIn_78 : decode cX7_metersIn 78 = .ok (.if_icmp .le 11, 3) := by decide +kernel
theorem dX7_metersIn_81 : decode cX7_metersIn 81 = .ok (.iload 7, 2) := by decide +kernel
theorem dX7_metersIn_83 : decode cX7_metersIn 83 = .ok (.iload 6, 2) := by decide +kernel
theorem dX7_metersIn_85 : decode cX7_metersIn 85 = .ok (.isub, 1) := by decide +kernel
theorem dX7_metersIn_86 : decode cX7_metersIn 86 = .ok (.goto 4, 3) := by decide +kernel
theorem dX7_metersIn_89 : decode cX7_metersIn 89 = .ok (.iconst 0, 1) := by decide +kernel
theorem dX7_metersIn_90 : decode cX7_metersIn 90 = .ok (.iadd, 1) := by decide +kernel
theorem dX7_metersIn_91 : decode cX7_metersIn 91 = .ok (.istore 4, 2) := by decide +kernel
theorem dX7_metersIn_93 : decode cX7_metersIn 93 = .ok (.iinc 5 1, 3) := by decide +kernel
theorem dX7_metersIn_96 : decode cX7_metersIn 96 = .ok (.goto (-90), 3) := by decide +kernel
theorem dX7_metersIn_99 : decode cX7_metersIn 99 = .ok (.iload 4, 2) := by decide +kernel
theorem dX7_metersIn_101 : decode cX7_metersIn 101 = .ok (.ireturn, 1) := by decide +kernel
theorem dX7_metersOf_0 : decode cX7_metersOf 0 = .ok (.aload_n 0, 1) := by decide +kernel
theorem dX7_metersOf_1 : decode cX7_metersOf 1 = .ok (.iconst 0, 1) := by decide +kernel
theorem dX7_metersOf_2 : decode cX7_metersOf 2 = .ok (.sipush 10000, 3) := by decide +kernel
theorem dX7_metersOf_5 : decode cX7_metersOf 5 = .ok (.iload_n 1, 1) := by decide +kernel
theorem dX7_metersOf_6 : decode cX7_metersOf 6 = .ok (.invokevirtual 97, 3) := by decide +kernel
theorem dX7_metersOf_9 : decode cX7_metersOf 9 = .ok (.ireturn, 1) := by decide +kernel
theorem dX7_mayGet_0 : decode cX7_mayGet 0 = .ok (.iload_n 2, 1) := by decide +kernel
theorem dX7_mayGet_1 : decode cX7_mayGet 1 = .ok (.ifCond .eq 19, 3) := by decide +kernel
theorem dX7_mayGet_4 : decode cX7_mayGet 4 = .ok (.aload_n 0, 1) := by decide +kernel
theorem dX7_mayGet_5 : decode cX7_mayGet 5 = .ok (.iload_n 1, 1) := by decide +kernel
theorem dX7_mayGet_6 : decode cX7_mayGet 6 = .ok (.invokevirtual 101, 3) := by decide +kernel
theorem dX7_mayGet_9 : decode cX7_mayGet 9 = .ok (.iload_n 2, 1) := by decide +kernel
theorem dX7_mayGet_10 : decode cX7_mayGet 10 = .ok (.iadd, 1) := by decide +kernel
theorem dX7_mayGet_11 : decode cX7_mayGet 11 = .ok (.aload_n 0, 1) := by decide +kernel
theorem dX7_mayGet_12 : decode cX7_mayGet 12 = .ok (.getfield 7, 3) := by decide +kernel
theorem dX7_mayGet_15 : decode cX7_mayGet 15 = .ok (.iconst 4, 1) := by decide +kernel
theorem dX7_mayGet_16 : decode cX7_mayGet 16 = .ok (.iaload, 1) := by decide +kernel
theorem dX7_mayGet_17 : decode cX7_mayGet 17 = .ok (.if_icmp .gt 7, 3) := by decide +kernel
theorem dX7_mayGet_20 : decode cX7_mayGet 20 = .ok (.iconst 1, 1) := by decide +kernel
theorem dX7_mayGet_21 : decode cX7_mayGet 21 = .ok (.goto 4, 3) := by decide +kernel
theorem dX7_mayGet_24 : decode cX7_mayGet 24 = .ok (.iconst 0, 1) := by decide +kernel
theorem dX7_mayGet_25 : decode cX7_mayGet 25 = .ok (.ireturn, 1) := by decide +kernel
theorem dX7_give_0 : decode cX7_give 0 = .ok (.aload_n 0, 1) := by decide +kernel
theorem dX7_give_1 : decode cX7_give 1 = .ok (.iload_n 1, 1) := by decide +kernel
theorem dX7_give_2 : decode cX7_give 2 = .ok (.invokevirtual 77, 3) := by decide +kernel
theorem dX7_give_5 : decode cX7_give 5 = .ok (.ifCond .ne 5, 3) := by decide +kernel
theorem dX7_give_8 : decode cX7_give 8 = .ok (.iconst (-1), 1) := by decide +kernel
theorem dX7_give_9 : decode cX7_give 9 = .ok (.ireturn, 1) := by decide +kernel
theorem dX7_give_10 : decode cX7_give 10 = .ok (.iload_n 2, 1) := by decide +kernel
theorem dX7_give_11 : decode cX7_give 11 = .ok (.iload_n 3, 1) := by decide +kernel
theorem dX7_give_12 : decode cX7_give 12 = .ok (.invokestatic 104, 3) := by decide +kernel
theorem dX7_give_15 : decode cX7_give 15 = .ok (.ifCond .ne 6, 3) := by decide +kernel
theorem dX7_give_18 : decode cX7_give 18 = .ok (.bipush (-2), 2) := by decide +kernel
theorem dX7_give_20 : decode cX7_give 20 = .ok (.ireturn, 1) := by decide +kernel
theorem dX7_give_21 : decode cX7_give 21 = .ok (.aload_n 0, 1) := by decide +kernel
theorem dX7_give_22 : decode cX7_give 22 = .ok (.iload_n 2, 1) := by decide +kernel
theorem dX7_give_23 : decode cX7_give 23 = .ok (.iload_n 2, 1) := by decide +kernel
theorem dX7_give_24 : decode cX7_give 24 = .ok (.iload_n 3, 1) := by decide +kernel
theorem dX7_give_25 : decode cX7_give 25 = .ok (.iadd, 1) := by decide +kernel
theorem dX7_give_26 : decode cX7_give 26 = .ok (.iload_n 1, 1) := by decide +kernel
theorem dX7_give_27 : decode cX7_give 27 = .ok (.invokevirtual 108, 3) := by decide +kernel
theorem dX7_give_30 : decode cX7_give 30 = .ok (.aload_n 0, 1) := by decide +kernel
theorem dX7_give_31 : decode cX7_give 31 = .ok (.invokevirtual 111, 3) := by decide +kernel
theorem dX7_give_34 : decode cX7_give 34 = .ok (.bipush 40, 2) := by decide +kernel
theorem dX7_give_36 : decode cX7_give 36 = .ok (.if_icmp .le 6, 3) := by decide +kernel
theorem dX7_give_39 : decode cX7_give 39 = .ok (.bipush (-4), 2) := by decide +kernel
theorem dX7_give_41 : decode cX7_give 41 = .ok (.ireturn, 1) := by decide +kernel
theorem dX7_give_42 : decode cX7_give 42 = .ok (.aload_n 0, 1) := by decide +kernel
theorem dX7_give_43 : decode cX7_give 43 = .ok (.iload_n 1, 1) := by decide +kernel
theorem dX7_give_44 : decode cX7_give 44 = .ok (.iload_n 3, 1) := by decide +kernel
theorem dX7_give_45 : decode cX7_give 45 = .ok (.aload_n 0, 1) := by decide +kernel
theorem dX7_give_46 : decode cX7_give 46 = .ok (.iload_n 2, 1) := by decide +kernel
theorem dX7_give_47 : decode cX7_give 47 = .ok (.iload_n 2, 1) := by decide +kernel
theorem dX7_give_48 : decode cX7_give 48 = .ok (.iload_n 3, 1) := by decide +kernel
theorem dX7_give_49 : decode cX7_give 49 = .ok (.iadd, 1) := by decide +kernel
theorem dX7_give_50 : decode cX7_give 50 = .ok (.iload_n 1, 1) := by decide +kernel
theorem dX7_give_51 : decode cX7_give 51 = .ok (.invokevirtual 97, 3) := by decide +kernel
theorem dX7_give_54 : decode cX7_give 54 = .ok (.isub, 1) := by decide +kernel
theorem dX7_give_55 : decode cX7_give 55 = .ok (.invokevirtual 115, 3) := by decide +kernel
theorem dX7_give_58 : decode cX7_give 58 = .ok (.ifCond .ne 6, 3) := by decide +kernel
theorem dX7_give_61 : decode cX7_give 61 = .ok (.bipush (-5), 2) := by decide +kernel
theorem dX7_give_63 : decode cX7_give 63 = .ok (.ireturn, 1) := by decide +kernel
theorem dX7_give_64 : decode cX7_give 64 = .ok (.aload_n 0, 1) := by decide +kernel
theorem dX7_give_65 : decode cX7_give 65 = .ok (.invokevirtual 73, 3) := by decide +kernel
theorem dX7_give_68 : decode cX7_give 68 = .ok (.aload_n 0, 1) := by decide +kernel
theorem dX7_give_69 : decode cX7_give 69 = .ok (.invokevirtual 118, 3) := by decide +kernel
theorem dX7_give_72 : decode cX7_give 72 = .ok (.aload_n 0, 1) := by decide +kernel
theorem dX7_give_73 : decode cX7_give 73 = .ok (.invokevirtual 121, 3) := by decide +kernel
theorem dX7_give_76 : decode cX7_give 76 = .ok (.ireturn, 1) := by decide +kernel
theorem dX7_free_0 : decode cX7_free 0 = .ok (.iload_n 1, 1) := by decide +kernel
theorem dX7_free_1 : decode cX7_free 1 = .ok (.iload_n 2, 1) := by decide +kernel
theorem dX7_free_2 : decode cX7_free 2 = .ok (.invokestatic 104, 3) := by decide +kernel
theorem dX7_free_5 : decode cX7_free 5 = .ok (.ifCond .ne 6, 3) := by decide +kernel
theorem dX7_free_8 : decode cX7_free 8 = .ok (.bipush (-2), 2) := by decide +kernel
theorem dX7_free_10 : decode cX7_free 10 = .ok (.ireturn, 1) := by decide +kernel
theorem dX7_free_11 : decode cX7_free 11 = .ok (.aload_n 0, 1) := by decide +kernel
theorem dX7_free_12 : decode cX7_free 12 = .ok (.iload_n 1, 1) := by decide +kernel
theorem dX7_free_13 : decode cX7_free 13 = .ok (.iload_n 1, 1) := by decide +kernel
theorem dX7_free_14 : decode cX7_free 14 = .ok (.iload_n 2, 1) := by decide +kernel
theorem dX7_free_15 : decode cX7_free 15 = .ok (.iadd, 1) := by decide +kernel
theorem dX7_free_16 : decode cX7_free 16 = .ok (.bipush (-6), 2) := by decide +kernel
theorem dX7_free_18 : decode cX7_free 18 = .ok (.invokevirtual 108, 3) := by decide +kernel
theorem dX7_free_21 : decode cX7_free 21 = .ok (.aload_n 0, 1) := by decide +kernel
theorem dX7_free_22 : decode cX7_free 22 = .ok (.invokevirtual 111, 3) := by decide +kernel
theorem dX7_free_25 : decode cX7_free 25 = .ok (.bipush 40, 2) := by decide +kernel
theorem dX7_free_27 : decode cX7_free 27 = .ok (.if_icmp .le 6, 3) := by decide +kernel
theorem dX7_free_30 : decode cX7_free 30 = .ok (.bipush (-4), 2) := by decide +kernel
theorem dX7_free_32 : decode cX7_free 32 = .ok (.ireturn, 1) := by decide +kernel
theorem dX7_free_33 : decode cX7_free 33 = .ok (.aload_n 0, 1) := by decide +kernel
theorem dX7_free_34 : decode cX7_free 34 = .ok (.invokevirtual 73, 3) := by decide +kernel
theorem dX7_free_37 : decode cX7_free 37 = .ok (.aload_n 0, 1) := by decide +kernel
theorem dX7_free_38 : decode cX7_free 38 = .ok (.invokevirtual 118, 3) := by decide +kernel
theorem dX7_free_41 : decode cX7_free 41 = .ok (.aload_n 0, 1) := by decide +kernel
theorem dX7_free_42 : decode cX7_free 42 = .ok (.invokevirtual 121, 3) := by decide +kernel
theorem dX7_free_45 : decode cX7_free 45 = .ok (.ireturn, 1) := by decide +kernel
theorem dX7_holeFor_0 : decode cX7_holeFor 0 = .ok (.bipush (-6), 2) := by decide +kernel
theorem dX7_holeFor_2 : decode cX7_holeFor 2 = .ok (.istore_n 3, 1) := by decide +kernel
theorem dX7_holeFor_3 : decode cX7_holeFor 3 = .ok (.iconst 0, 1) := by decide +kernel
theorem dX7_holeFor_4 : decode cX7_holeFor 4 = .ok (.istore 4, 2) := by decide +kernel
theorem dX7_holeFor_6 : decode cX7_holeFor 6 = .ok (.iload 4, 2) := by decide +kernel
theorem dX7_holeFor_8 : decode cX7_holeFor 8 = .ok (.aload_n 0, 1) := by decide +kernel
theorem dX7_holeFor_9 : decode cX7_holeFor 9 = .ok (.getfield 7, 3) := by decide +kernel
theorem dX7_holeFor_12 : decode cX7_holeFor 12 = .ok (.bipush 7, 2) := by decide +kernel
theorem dX7_holeFor_14 : decode cX7_holeFor 14 = .ok (.iaload, 1) := by decide +kernel
theorem dX7_holeFor_15 : decode cX7_holeFor 15 = .ok (.if_icmp .ge 101, 3) := by decide +kernel
theorem dX7_holeFor_18 : decode cX7_holeFor 18 = .ok (.aload_n 0, 1) := by decide +kernel
theorem dX7_holeFor_19 : decode cX7_holeFor 19 = .ok (.iload 4, 2) := by decide +kernel
theorem dX7_holeFor_21 : decode cX7_holeFor 21 = .ok (.invokevirtual 87, 3) := by decide +kernel
theorem dX7_holeFor_24 : decode cX7_holeFor 24 = .ok (.ifCond .ge 17, 3) := by decide +kernel
theorem dX7_holeFor_27 : decode cX7_holeFor 27 = .ok (.aload_n 0, 1) := by decide +kernel
theorem dX7_holeFor_28 : decode cX7_holeFor 28 = .ok (.iload 4, 2) := by decide +kernel
theorem dX7_holeFor_30 : decode cX7_holeFor 30 = .ok (.invokevirtual 124, 3) := by decide +kernel
theorem dX7_holeFor_33 : decode cX7_holeFor 33 = .ok (.iload_n 1, 1) := by decide +kernel
theorem dX7_holeFor_34 : decode cX7_holeFor 34 = .ok (.if_icmp .lt 7, 3) := by decide +kernel
theorem dX7_holeFor_37 : decode cX7_holeFor 37 = .ok (.iconst 1, 1) := by decide +kernel
theorem dX7_holeFor_38 : decode cX7_holeFor 38 = .ok (.goto 4, 3) := by decide +kernel
theorem dX7_holeFor_41 : decode cX7_holeFor 41 = .ok (.iconst 0, 1) := by decide +kernel
theorem dX7_holeFor_42 : decode cX7_holeFor 42 = .ok (.istore 5, 2) := by decide +kernel
theorem dX7_holeFor_44 : decode cX7_holeFor 44 = .ok (.iload_n 3, 1) := by decide +kernel
theorem dX7_holeFor_45 : decode cX7_holeFor 45 = .ok (.ifCond .lt 41, 3) := by decide +kernel
theorem dX7_holeFor_48 : decode cX7_holeFor 48 = .ok (.iload_n 2, 1) := by decide +kernel
theorem dX7_holeFor_49 : decode cX7_holeFor 49 = .ok (.iconst 1, 1) := by decide +kernel
theorem dX7_holeFor_50 : decode cX7_holeFor 50 = .ok (.if_icmp .ne 17, 3) := by decide +kernel
theorem dX7_holeFor_53 : decode cX7_holeFor 53 = .ok (.aload_n 0, 1) := by decide +kernel
theorem dX7_holeFor_54 : decode cX7_holeFor 54 = .ok (.iload 4, 2) := by decide +kernel
theorem dX7_holeFor_56 : decode cX7_holeFor 56 = .ok (.invokevirtual 124, 3) := by decide +kernel
theorem dX7_holeFor_59 : decode cX7_holeFor 59 = .ok (.aload_n 0, 1) := by decide +kernel
theorem dX7_holeFor_60 : decode cX7_holeFor 60 = .ok (.iload_n 3, 1) := by decide +kernel
theorem dX7_holeFor_61 : decode cX7_holeFor 61 = .ok (.invokevirtual 124, 3) := by decide +kernel
theorem dX7_holeFor_64 : decode cX7_holeFor 64 = .ok (.if_icmp .lt 22, 3) := by decide +kernel
theorem dX7_holeFor_67 : decode cX7_holeFor 67 = .ok (.iload_n 2, 1) := by decide +kernel
theorem dX7_holeFor_68 : decode cX7_holeFor 68 = .ok (.iconst 2, 1) := by decide +kernel
theorem dX7_holeFor_69 : decode cX7_holeFor 69 = .ok (.if_icmp .ne 21, 3) := by decide +kernel
theorem dX7_holeFor_72 : decode cX7_holeFor 72 = .ok (.aload_n 0, 1) := by decide +kernel
theorem dX7_holeFor_73 : decode cX7_holeFor 73 = .ok (.iload 4, 2) := by decide +kernel
theorem dX7_holeFor_75 : decode cX7_holeFor 75 = .ok (.invokevirtual 124, 3) := by decide +kernel
theorem dX7_holeFor_78 : decode cX7_holeFor 78 = .ok (.aload_n 0, 1) := by decide +kernel
theorem dX7_holeFor_79 : decode cX7_holeFor 79 = .ok (.iload_n 3, 1) := by decide +kernel
theorem dX7_holeFor_80 : decode cX7_holeFor 80 = .ok (.invokevirtual 124, 3) := by decide +kernel
theorem dX7_holeFor_83 : decode cX7_holeFor 83 = .ok (.if_icmp .le 7, 3) := by decide +kernel
theorem dX7_holeFor_86 : decode cX7_holeFor 86 = .ok (.iconst 1, 1) := by decide +kernel
theorem dX7_holeFor_87 : decode cX7_holeFor 87 = .ok (.goto 4, 3) := by decide +kernel
theorem dX7_holeFor_90 : decode cX7_holeFor 90 = .ok (.iconst 0, 1) := by decide +kernel
theorem dX7_holeFor_91 : decode cX7_holeFor 91 = .ok (.istore 6, 2) := by decide +kernel
theorem dX7_holeFor_93 : decode cX7_holeFor 93 = .ok (.iload 5, 2) := by decide +kernel
theorem dX7_holeFor_95 : decode cX7_holeFor 95 = .ok (.ifCond .eq 13, 3) := by decide +kernel
theorem dX7_holeFor_98 : decode cX7_holeFor 98 = .ok (.iload 6, 2) := by decide +kernel
theorem dX7_holeFor_100 : decode cX7_holeFor 100 = .ok (.ifCond .eq 8, 3) := by decide +kernel
theorem dX7_holeFor_103 : decode cX7_holeFor 103 = .ok (.iload 4, 2) := by decide +kernel
theorem dX7_holeFor_105 : decode cX7_holeFor 105 = .ok (.goto 4, 3) := by decide +kernel
theorem dX7_holeFor_108 : decode cX7_holeFor 108 = .ok (.iload_n 3, 1) := by decide +kernel
theorem dX7_holeFor_109 : decode cX7_holeFor 109 = .ok (.istore_n 3, 1) := by decide +kernel
theorem dX7_holeFor_110 : decode cX7_holeFor 110 = .ok (.iinc 4 1, 3) := by decide +kernel
theorem dX7_holeFor_113 : decode cX7_holeFor 113 = .ok (.goto (-107), 3) := by decide +kernel
theorem dX7_holeFor_116 : decode cX7_holeFor 116 = .ok (.iload_n 3, 1) := by decide +kernel
theorem dX7_holeFor_117 : decode cX7_holeFor 117 = .ok (.ifCond .ge 8, 3) := by decide +kernel
theorem dX7_holeFor_120 : decode cX7_holeFor 120 = .ok (.bipush (-6), 2) := by decide +kernel
theorem dX7_holeFor_122 : decode cX7_holeFor 122 = .ok (.goto 8, 3) := by decide +kernel
theorem dX7_holeFor_125 : decode cX7_holeFor 125 = .ok (.aload_n 0, 1) := by decide +kernel
theorem dX7_holeFor_126 : decode cX7_holeFor 126 = .ok (.iload_n 3, 1) := by decide +kernel
theorem dX7_holeFor_127 : decode cX7_holeFor 127 = .ok (.invokevirtual 81, 3) := by decide +kernel
theorem dX7_holeFor_130 : decode cX7_holeFor 130 = .ok (.ireturn, 1) := by decide +kernel
theorem dX7_grab_0 : decode cX7_grab 0 = .ok (.aload_n 0, 1) := by decide +kernel
theorem dX7_grab_1 : decode cX7_grab 1 = .ok (.iload_n 1, 1) := by decide +kernel
theorem dX7_grab_2 : decode cX7_grab 2 = .ok (.invokevirtual 77, 3) := by decide +kernel
theorem dX7_grab_5 : decode cX7_grab 5 = .ok (.ifCond .ne 5, 3) := by decide +kernel
theorem dX7_grab_8 : decode cX7_grab 8 = .ok (.iconst (-1), 1) := by decide +kernel
theorem dX7_grab_9 : decode cX7_grab 9 = .ok (.ireturn, 1) := by decide +kernel
theorem dX7_grab_10 : decode cX7_grab 10 = .ok (.iload_n 2, 1) := by decide +kernel
theorem dX7_grab_11 : decode cX7_grab 11 = .ok (.iconst 1, 1) := by decide +kernel
theorem dX7_grab_12 : decode cX7_grab 12 = .ok (.sipush 10000, 3) := by decide +kernel
theorem dX7_grab_15 : decode cX7_grab 15 = .ok (.invokestatic 62, 3) := by decide +kernel
theorem dX7_grab_18 : decode cX7_grab 18 = .ok (.ifCond .ne 6, 3) := by decide +kernel
theorem dX7_grab_21 : decode cX7_grab 21 = .ok (.bipush (-2), 2) := by decide +kernel
theorem dX7_grab_23 : decode cX7_grab 23 = .ok (.ireturn, 1) := by decide +kernel
theorem dX7_grab_24 : decode cX7_grab 24 = .ok (.aload_n 0, 1) := by decide +kernel
theorem dX7_grab_25 : decode cX7_grab 25 = .ok (.iload_n 2, 1) := by decide +kernel
theorem dX7_grab_26 : decode cX7_grab 26 = .ok (.iconst 0, 1) := by decide +kernel
theorem dX7_grab_27 : decode cX7_grab 27 = .ok (.invokevirtual 127, 3) := by decide +kernel
theorem dX7_grab_30 : decode cX7_grab 30 = .ok (.istore_n 3, 1) := by decide +kernel
theorem dX7_grab_31 : decode cX7_grab 31 = .ok (.iload_n 3, 1) := by decide +kernel
theorem dX7_grab_32 : decode cX7_grab 32 = .ok (.ifCond .lt 24, 3) := by decide +kernel
theorem dX7_grab_35 : decode cX7_grab 35 = .ok (.aload_n 0, 1) := by decide +kernel
theorem dX7_grab_36 : decode cX7_grab 36 = .ok (.iload_n 3, 1) := by decide +kernel
theorem dX7_grab_37 : decode cX7_grab 37 = .ok (.iload_n 3, 1) := by decide +kernel
theorem dX7_grab_38 : decode cX7_grab 38 = .ok (.iload_n 2, 1) := by decide +kernel
theorem dX7_grab_39 : decode cX7_grab 39 = .ok (.iadd, 1) := by decide +kernel
theorem dX7_grab_40 : decode cX7_grab 40 = .ok (.iload_n 1, 1) := by decide +kernel
theorem dX7_grab_41 : decode cX7_grab 41 = .ok (.invokevirtual 108, 3) := by decide +kernel
theorem dX7_grab_44 : decode cX7_grab 44 = .ok (.aload_n 0, 1) := by decide +kernel
theorem dX7_grab_45 : decode cX7_grab 45 = .ok (.invokevirtual 111, 3) := by decide +kernel
theorem dX7_grab_48 : decode cX7_grab 48 = .ok (.bipush 40, 2) := by decide +kernel
theorem dX7_grab_50 : decode cX7_grab 50 = .ok (.if_icmp .le 6, 3) := by decide +kernel
theorem dX7_grab_53 : decode cX7_grab 53 = .ok (.bipush (-4), 2) := by decide +kernel
theorem dX7_grab_55 : decode cX7_grab 55 = .ok (.ireturn, 1) := by decide +kernel
theorem dX7_grab_56 : decode cX7_grab 56 = .ok (.iload_n 3, 1) := by decide +kernel
theorem dX7_grab_57 : decode cX7_grab 57 = .ok (.ifCond .lt 12, 3) := by decide +kernel
theorem dX7_grab_60 : decode cX7_grab 60 = .ok (.aload_n 0, 1) := by decide +kernel
theorem dX7_grab_61 : decode cX7_grab 61 = .ok (.iload_n 1, 1) := by decide +kernel
theorem dX7_grab_62 : decode cX7_grab 62 = .ok (.iload_n 2, 1) := by decide +kernel
theorem dX7_grab_63 : decode cX7_grab 63 = .ok (.invokevirtual 115, 3) := by decide +kernel
theorem dX7_grab_66 : decode cX7_grab 66 = .ok (.ifCond .ne 6, 3) := by decide +kernel
theorem dX7_grab_69 : decode cX7_grab 69 = .ok (.bipush (-5), 2) := by decide +kernel
theorem dX7_grab_71 : decode cX7_grab 71 = .ok (.ireturn, 1) := by decide +kernel
theorem dX7_grab_72 : decode cX7_grab 72 = .ok (.aload_n 0, 1) := by decide +kernel
theorem dX7_grab_73 : decode cX7_grab 73 = .ok (.invokevirtual 73, 3) := by decide +kernel
theorem dX7_grab_76 : decode cX7_grab 76 = .ok (.aload_n 0, 1) := by decide +kernel
theorem dX7_grab_77 : decode cX7_grab 77 = .ok (.invokevirtual 118, 3) := by decide +kernel
theorem dX7_grab_80 : decode cX7_grab 80 = .ok (.iload_n 3, 1) := by decide +kernel
theorem dX7_grab_81 : decode cX7_grab 81 = .ok (.ireturn, 1) := by decide +kernel
theorem dX7_layAll_0 : decode cX7_layAll 0 = .ok (.aload_n 0, 1) := by decide +kernel
theorem dX7_layAll_1 : decode cX7_layAll 1 = .ok (.iconst 0, 1) := by decide +kernel
theorem dX7_layAll_2 : decode cX7_layAll 2 = .ok (.putfield 90, 3) := by decide +kernel
theorem dX7_layAll_5 : decode cX7_layAll 5 = .ok (.iconst 0, 1) := by decide +kernel
theorem dX7_layAll_6 : decode cX7_layAll 6 = .ok (.istore_n 3, 1) := by decide +kernel
theorem dX7_layAll_7 : decode cX7_layAll 7 = .ok (.iload_n 3, 1) := by decide +kernel
theorem dX7_layAll_8 : decode cX7_layAll 8 = .ok (.aload_n 0, 1) := by decide +kernel
theorem dX7_layAll_9 : decode cX7_layAll 9 = .ok (.getfield 7, 3) := by decide +kernel
theorem dX7_layAll_12 : decode cX7_layAll 12 = .ok (.bipush 7, 2) := by decide +kernel
theorem dX7_layAll_14 : decode cX7_layAll 14 = .ok (.iaload, 1) := by decide +kernel
theorem dX7_layAll_15 : decode cX7_layAll 15 = .ok (.if_icmp .ge 41, 3) := by decide +kernel
theorem dX7_layAll_18 : decode cX7_layAll 18 = .ok (.aload_n 0, 1) := by decide +kernel
theorem dX7_layAll_19 : decode cX7_layAll 19 = .ok (.aload_n 0, 1) := by decide +kernel
theorem dX7_layAll_20 : decode cX7_layAll 20 = .ok (.iload_n 3, 1) := by decide +kernel
theorem dX7_layAll_21 : decode cX7_layAll 21 = .ok (.invokevirtual 81, 3) := by decide +kernel
theorem dX7_layAll_24 : decode cX7_layAll 24 = .ok (.aload_n 0, 1) := by decide +kernel
theorem dX7_layAll_25 : decode cX7_layAll 25 = .ok (.iload_n 3, 1) := by decide +kernel
theorem dX7_layAll_26 : decode cX7_layAll 26 = .ok (.invokevirtual 84, 3) := by decide +kernel
theorem dX7_layAll_29 : decode cX7_layAll 29 = .ok (.aload_n 0, 1) := by decide +kernel
theorem dX7_layAll_30 : decode cX7_layAll 30 = .ok (.iload_n 3, 1) := by decide +kernel
theorem dX7_layAll_31 : decode cX7_layAll 31 = .ok (.invokevirtual 87, 3) := by decide +kernel
theorem dX7_layAll_34 : decode cX7_layAll 34 = .ok (.iload_n 1, 1) := by decide +kernel
theorem dX7_layAll_35 : decode cX7_layAll 35 = .ok (.if_icmp .ne 7, 3) := by decide +kernel
theorem dX7_layAll_38 : decode cX7_layAll 38 = .ok (.iload_n 2, 1) := by decide +kernel
theorem dX7_layAll_39 : decode cX7_layAll 39 = .ok (.goto 8, 3) := by decide +kernel
theorem dX7_layAll_42 : decode cX7_layAll 42 = .ok (.aload_n 0, 1) := by decide +kernel
theorem dX7_layAll_43 : decode cX7_layAll 43 = .ok (.iload_n 3, 1) := by decide +kernel
theorem dX7_layAll_44 : decode cX7_layAll 44 = .ok (.invokevirtual 87, 3) := by decide +kernel
theorem dX7_layAll_47 : decode cX7_layAll 47 = .ok (.invokevirtual 93, 3) := by decide +kernel
theorem dX7_layAll_50 : decode cX7_layAll 50 = .ok (.iinc 3 1, 3) := by decide +kernel
theorem dX7_layAll_53 : decode cX7_layAll 53 = .ok (.goto (-46), 3) := by decide +kernel
theorem dX7_layAll_56 : decode cX7_layAll 56 = .ok (.return_, 1) := by decide +kernel
theorem dX7_inherit_0 : decode cX7_inherit 0 = .ok (.aload_n 0, 1) := by decide +kernel
theorem dX7_inherit_1 : decode cX7_inherit 1 = .ok (.iload_n 1, 1) := by decide +kernel
theorem dX7_inherit_2 : decode cX7_inherit 2 = .ok (.invokevirtual 77, 3) := by decide +kernel
theorem dX7_inherit_5 : decode cX7_inherit 5 = .ok (.ifCond .eq 16, 3) := by decide +kernel
theorem dX7_inherit_8 : decode cX7_inherit 8 = .ok (.aload_n 0, 1) := by decide +kernel
theorem dX7_inherit_9 : decode cX7_inherit 9 = .ok (.iload_n 2, 1) := by decide +kernel
theorem dX7_inherit_10 : decode cX7_inherit 10 = .ok (.invokevirtual 77, 3) := by decide +kernel
theorem dX7_inherit_13 : decode cX7_inherit 13 = .ok (.ifCond .eq 8, 3) := by decide +kernel
theorem dX7_inherit_16 : decode cX7_inherit 16 = .ok (.iload_n 1, 1) := by decide +kernel
theorem dX7_inherit_17 : decode cX7_inherit 17 = .ok (.iload_n 2, 1) := by decide +kernel
theorem dX7_inherit_18 : decode cX7_inherit 18 = .ok (.if_icmp .ne 5, 3) := by decide +kernel
theorem dX7_inherit_21 : decode cX7_inherit 21 = .ok (.iconst (-1), 1) := by decide +kernel
theorem dX7_inherit_22 : decode cX7_inherit 22 = .ok (.ireturn, 1) := by decide +kernel
theorem dX7_inherit_23 : decode cX7_inherit 23 = .ok (.aload_n 0, 1) := by decide +kernel
theorem dX7_inherit_24 : decode cX7_inherit 24 = .ok (.iload_n 1, 1) := by decide +kernel
theorem dX7_inherit_25 : decode cX7_inherit 25 = .ok (.invokevirtual 101, 3) := by decide +kernel
theorem dX7_inherit_28 : decode cX7_inherit 28 = .ok (.istore_n 3, 1) := by decide +kernel
theorem dX7_inherit_29 : decode cX7_inherit 29 = .ok (.aload_n 0, 1) := by decide +kernel
theorem dX7_inherit_30 : decode cX7_inherit 30 = .ok (.iload_n 2, 1) := by decide +kernel
theorem dX7_inherit_31 : decode cX7_inherit 31 = .ok (.iload_n 3, 1) := by decide +kernel
theorem dX7_inherit_32 : decode cX7_inherit 32 = .ok (.invokevirtual 115, 3) := by decide +kernel
theorem dX7_inherit_35 : decode cX7_inherit 35 = .ok (.ifCond .ne 6, 3) := by decide +kernel
theorem dX7_inherit_38 : decode cX7_inherit 38 = .ok (.bipush (-5), 2) := by decide +kernel
theorem dX7_inherit_40 : decode cX7_inherit 40 = .ok (.ireturn, 1) := by decide +kernel
theorem dX7_inherit_41 : decode cX7_inherit 41 = .ok (.aload_n 0, 1) := by decide +kernel
theorem dX7_inherit_42 : decode cX7_inherit 42 = .ok (.invokevirtual 73, 3) := by decide +kernel
theorem dX7_inherit_45 : decode cX7_inherit 45 = .ok (.aload_n 0, 1) := by decide +kernel
theorem dX7_inherit_46 : decode cX7_inherit 46 = .ok (.iload_n 1, 1) := by decide +kernel
theorem dX7_inherit_47 : decode cX7_inherit 47 = .ok (.iload_n 2, 1) := by decide +kernel
theorem dX7_inherit_48 : decode cX7_inherit 48 = .ok (.invokevirtual 131, 3) := by decide +kernel
theorem dX7_inherit_51 : decode cX7_inherit 51 = .ok (.aload_n 0, 1) := by decide +kernel
theorem dX7_inherit_52 : decode cX7_inherit 52 = .ok (.invokevirtual 118, 3) := by decide +kernel
theorem dX7_inherit_55 : decode cX7_inherit 55 = .ok (.iload_n 3, 1) := by decide +kernel
theorem dX7_inherit_56 : decode cX7_inherit 56 = .ok (.ireturn, 1) := by decide +kernel
theorem dX7_transfer_0 : decode cX7_transfer 0 = .ok (.aload_n 0, 1) := by decide +kernel
theorem dX7_transfer_1 : decode cX7_transfer 1 = .ok (.iload_n 1, 1) := by decide +kernel
theorem dX7_transfer_2 : decode cX7_transfer 2 = .ok (.invokevirtual 77, 3) := by decide +kernel
theorem dX7_transfer_5 : decode cX7_transfer 5 = .ok (.ifCond .eq 16, 3) := by decide +kernel
theorem dX7_transfer_8 : decode cX7_transfer 8 = .ok (.aload_n 0, 1) := by decide +kernel
theorem dX7_transfer_9 : decode cX7_transfer 9 = .ok (.iload_n 2, 1) := by decide +kernel
theorem dX7_transfer_10 : decode cX7_transfer 10 = .ok (.invokevirtual 77, 3) := by decide +kernel
theorem dX7_transfer_13 : decode cX7_transfer 13 = .ok (.ifCond .eq 8, 3) := by decide +kernel
theorem dX7_transfer_16 : decode cX7_transfer 16 = .ok (.iload_n 1, 1) := by decide +kernel
theorem dX7_transfer_17 : decode cX7_transfer 17 = .ok (.iload_n 2, 1) := by decide +kernel
theorem dX7_transfer_18 : decode cX7_transfer 18 = .ok (.if_icmp .ne 5, 3) := by decide +kernel
theorem dX7_transfer_21 : decode cX7_transfer 21 = .ok (.iconst (-1), 1) := by decide +kernel
theorem dX7_transfer_22 : decode cX7_transfer 22 = .ok (.ireturn, 1) := by decide +kernel
theorem dX7_transfer_23 : decode cX7_transfer 23 = .ok (.iload_n 3, 1) := by decide +kernel
theorem dX7_transfer_24 : decode cX7_transfer 24 = .ok (.iload 4, 2) := by decide +kernel
theorem dX7_transfer_26 : decode cX7_transfer 26 = .ok (.invokestatic 104, 3) := by decide +kernel
theorem dX7_transfer_29 : decode cX7_transfer 29 = .ok (.ifCond .eq 14, 3) := by decide +kernel
theorem dX7_transfer_32 : decode cX7_transfer 32 = .ok (.iload 5, 2) := by decide +kernel
theorem dX7_transfer_34 : decode cX7_transfer 34 = .ok (.iconst 0, 1) := by decide +kernel
theorem dX7_transfer_35 : decode cX7_transfer 35 = .ok (.ldc 76, 2) := by decide +kernel
theorem dX7_transfer_37 : decode cX7_transfer 37 = .ok (.invokestatic 62, 3) := by decide +kernel
theorem dX7_transfer_40 : decode cX7_transfer 40 = .ok (.ifCond .ne 6, 3) := by decide +kernel
theorem dX7_transfer_43 : decode cX7_transfer 43 = .ok (.bipush (-2), 2) := by decide +kernel
theorem dX7_transfer_45 : decode cX7_transfer 45 = .ok (.ireturn, 1) := by decide +kernel
theorem dX7_transfer_46 : decode cX7_transfer 46 = .ok (.aload_n 0, 1) := by decide +kernel
theorem dX7_transfer_47 : decode cX7_transfer 47 = .ok (.getfield 7, 3) := by decide +kernel
theorem dX7_transfer_50 : decode cX7_transfer 50 = .ok (.bipush 8, 2) := by decide +kernel
theorem dX7_transfer_52 : decode cX7_transfer 52 = .ok (.iaload, 1) := by decide +kernel
theorem dX7_transfer_53 : decode cX7_transfer 53 = .ok (.bipush 8, 2) := by decide +kernel
theorem dX7_transfer_55 : decode cX7_transfer 55 = .ok (.if_icmp .ne 6, 3) := by decide +kernel
theorem dX7_transfer_58 : decode cX7_transfer 58 = .ok (.bipush (-4), 2) := by decide +kernel
theorem dX7_transfer_60 : decode cX7_transfer 60 = .ok (.ireturn, 1) := by decide +kernel
theorem dX7_transfer_61 : decode cX7_transfer 61 = .ok (.aload_n 0, 1) := by decide +kernel
theorem dX7_transfer_62 : decode cX7_transfer 62 = .ok (.invokevirtual 73, 3) := by decide +kernel
theorem dX7_transfer_65 : decode cX7_transfer 65 = .ok (.bipush 50, 2) := by decide +kernel
theorem dX7_transfer_67 : decode cX7_transfer 67 = .ok (.iconst 5, 1) := by decide +kernel
theorem dX7_transfer_68 : decode cX7_transfer 68 = .ok (.aload_n 0, 1) := by decide +kernel
theorem dX7_transfer_69 : decode cX7_transfer 69 = .ok (.getfield 7, 3) := by decide +kernel
theorem dX7_transfer_72 : decode cX7_transfer 72 = .ok (.bipush 8, 2) := by decide +kernel
theorem dX7_transfer_74 : decode cX7_transfer 74 = .ok (.iaload, 1) := by decide +kernel
theorem dX7_transfer_75 : decode cX7_transfer 75 = .ok (.imul, 1) := by decide +kernel
theorem dX7_transfer_76 : decode cX7_transfer 76 = .ok (.iadd, 1) := by decide +kernel
theorem dX7_transfer_77 : decode cX7_transfer 77 = .ok (.istore 6, 2) := by decide +kernel
theorem dX7_transfer_79 : decode cX7_transfer 79 = .ok (.aload_n 0, 1) := by decide +kernel
theorem dX7_transfer_80 : decode cX7_transfer 80 = .ok (.getfield 7, 3) := by decide +kernel
theorem dX7_transfer_83 : decode cX7_transfer 83 = .ok (.iload 6, 2) := by decide +kernel
theorem dX7_transfer_85 : decode cX7_transfer 85 = .ok (.iload_n 1, 1) := by decide +kernel
theorem dX7_transfer_86 : decode cX7_transfer 86 = .ok (.iastore, 1) := by decide +kernel
theorem dX7_transfer_87 : decode cX7_transfer 87 = .ok (.aload_n 0, 1) := by decide +kernel
theorem dX7_transfer_88 : decode cX7_transfer 88 = .ok (.getfield 7, 3) := by decide +kernel
theorem dX7_transfer_91 : decode cX7_transfer 91 = .ok (.iload 6, 2) := by decide +kernel
theorem dX7_transfer_93 : decode cX7_transfer 93 = .ok (.iconst 1, 1) := by decide +kernel
theorem dX7_transfer_94 : decode cX7_transfer 94 = .ok (.iadd, 1) := by decide +kernel
theorem dX7_transfer_95 : decode cX7_transfer 95 = .ok (.iload_n 2, 1) := by decide +kernel
theorem dX7_transfer_96 : decode cX7_transfer 96 = .ok (.iastore, 1) := by decide +kernel
theorem dX7_transfer_97 : decode cX7_transfer 97 = .ok (.aload_n 0, 1) := by decide +kernel
theorem dX7_transfer_98 : decode cX7_transfer 98 = .ok (.getfield 7, 3) := by decide +kernel
theorem dX7_transfer_101 : decode cX7_transfer 101 = .ok (.iload 6, 2) := by decide +kernel
theorem dX7_transfer_103 : decode cX7_transfer 103 = .ok (.iconst 2, 1) := by decide +kernel
theorem dX7_transfer_104 : decode cX7_transfer 104 = .ok (.iadd, 1) := by decide +kernel
theorem dX7_transfer_105 : decode cX7_transfer 105 = .ok (.iload_n 3, 1) := by decide +kernel
theorem dX7_transfer_106 : decode cX7_transfer 106 = .ok (.iastore, 1) := by decide +kernel
theorem dX7_transfer_107 : decode cX7_transfer 107 = .ok (.aload_n 0, 1) := by decide +kernel
theorem dX7_transfer_108 : decode cX7_transfer 108 = .ok (.getfield 7, 3) := by decide +kernel
theorem dX7_transfer_111 : decode cX7_transfer 111 = .ok (.iload 6, 2) := by decide +kernel
theorem dX7_transfer_113 : decode cX7_transfer 113 = .ok (.iconst 3, 1) := by decide +kernel
theorem dX7_transfer_114 : decode cX7_transfer 114 = .ok (.iadd, 1) := by decide +kernel
theorem dX7_transfer_115 : decode cX7_transfer 115 = .ok (.iload 4, 2) := by decide +kernel
theorem dX7_transfer_117 : decode cX7_transfer 117 = .ok (.iastore, 1) := by decide +kernel
theorem dX7_transfer_118 : decode cX7_transfer 118 = .ok (.aload_n 0, 1) := by decide +kernel
theorem dX7_transfer_119 : decode cX7_transfer 119 = .ok (.getfield 7, 3) := by decide +kernel
theorem dX7_transfer_122 : decode cX7_transfer 122 = .ok (.iload 6, 2) := by decide +kernel
theorem dX7_transfer_124 : decode cX7_transfer 124 = .ok (.iconst 4, 1) := by decide +kernel
theorem dX7_transfer_125 : decode cX7_transfer 125 = .ok (.iadd, 1) := by decide +kernel
theorem dX7_transfer_126 : decode cX7_transfer 126 = .ok (.iload 5, 2) := by decide +kernel
theorem dX7_transfer_128 : decode cX7_transfer 128 = .ok (.iastore, 1) := by decide +kernel
theorem dX7_transfer_129 : decode cX7_transfer 129 = .ok (.aload_n 0, 1) := by decide +kernel
theorem dX7_transfer_130 : decode cX7_transfer 130 = .ok (.getfield 7, 3) := by decide +kernel
theorem dX7_transfer_133 : decode cX7_transfer 133 = .ok (.bipush 8, 2) := by decide +kernel
theorem dX7_transfer_135 : decode cX7_transfer 135 = .ok (.dup2, 1) := by decide +kernel
theorem dX7_transfer_136 : decode cX7_transfer 136 = .ok (.iaload, 1) := by decide +kernel
theorem dX7_transfer_137 : decode cX7_transfer 137 = .ok (.iconst 1, 1) := by decide +kernel
theorem dX7_transfer_138 : decode cX7_transfer 138 = .ok (.iadd, 1) := by decide +kernel
theorem dX7_transfer_139 : decode cX7_transfer 139 = .ok (.iastore, 1) := by decide +kernel
theorem dX7_transfer_140 : decode cX7_transfer 140 = .ok (.aload_n 0, 1) := by decide +kernel
theorem dX7_transfer_141 : decode cX7_transfer 141 = .ok (.getfield 7, 3) := by decide +kernel
theorem dX7_transfer_144 : decode cX7_transfer 144 = .ok (.bipush 8, 2) := by decide +kernel
theorem dX7_transfer_146 : decode cX7_transfer 146 = .ok (.iaload, 1) := by decide +kernel
theorem dX7_transfer_147 : decode cX7_transfer 147 = .ok (.ireturn, 1) := by decide +kernel
theorem dX7_drop_0 : decode cX7_drop 0 = .ok (.aload_n 0, 1) := by decide +kernel
theorem dX7_drop_1 : decode cX7_drop 1 = .ok (.getfield 7, 3) := by decide +kernel
theorem dX7_drop_4 : decode cX7_drop 4 = .ok (.bipush 8, 2) := by decide +kernel
theorem dX7_drop_6 : decode cX7_drop 6 = .ok (.iaload, 1) := by decide +kernel
theorem dX7_drop_7 : decode cX7_drop 7 = .ok (.ifCond .ne 6, 3) := by decide +kernel
theorem dX7_drop_10 : decode cX7_drop 10 = .ok (.bipush (-5), 2) := by decide +kernel
theorem dX7_drop_12 : decode cX7_drop 12 = .ok (.ireturn, 1) := by decide +kernel
theorem dX7_drop_13 : decode cX7_drop 13 = .ok (.aload_n 0, 1) := by decide +kernel
theorem dX7_drop_14 : decode cX7_drop 14 = .ok (.invokevirtual 73, 3) := by decide +kernel
theorem dX7_drop_17 : decode cX7_drop 17 = .ok (.aload_n 0, 1) := by decide +kernel
theorem dX7_drop_18 : decode cX7_drop 18 = .ok (.getfield 7, 3) := by decide +kernel
theorem dX7_drop_21 : decode cX7_drop 21 = .ok (.bipush 8, 2) := by decide +kernel
theorem dX7_drop_23 : decode cX7_drop 23 = .ok (.dup2, 1) := by decide +kernel
theorem dX7_drop_24 : decode cX7_drop 24 = .ok (.iaload, 1) := by decide +kernel
theorem dX7_drop_25 : decode cX7_drop 25 = .ok (.iconst 1, 1) := by decide +kernel
theorem dX7_drop_26 : decode cX7_drop 26 = .ok (.isub, 1) := by decide +kernel
theorem dX7_drop_27 : decode cX7_drop 27 = .ok (.iastore, 1) := by decide +kernel
theorem dX7_drop_28 : decode cX7_drop 28 = .ok (.aload_n 0, 1) := by decide +kernel
theorem dX7_drop_29 : decode cX7_drop 29 = .ok (.getfield 7, 3) := by decide +kernel
theorem dX7_drop_32 : decode cX7_drop 32 = .ok (.bipush 8, 2) := by decide +kernel
theorem dX7_drop_34 : decode cX7_drop 34 = .ok (.iaload, 1) := by decide +kernel
theorem dX7_drop_35 : decode cX7_drop 35 = .ok (.ireturn, 1) := by decide +kernel
theorem dX7_isLong_0 : decode cX7_isLong 0 = .ok (.iconst 0, 1) := by decide +kernel
theorem dX7_isLong_1 : decode cX7_isLong 1 = .ok (.istore_n 2, 1) := by decide +kernel
theorem dX7_isLong_2 : decode cX7_isLong 2 = .ok (.iload_n 2, 1) := by decide +kernel
theorem dX7_isLong_3 : decode cX7_isLong 3 = .ok (.aload_n 0, 1) := by decide +kernel
theorem dX7_isLong_4 : decode cX7_isLong 4 = .ok (.getfield 7, 3) := by decide +kernel
theorem dX7_isLong_7 : decode cX7_isLong 7 = .ok (.bipush 7, 2) := by decide +kernel
theorem dX7_isLong_9 : decode cX7_isLong 9 = .ok (.iaload, 1) := by decide +kernel
theorem dX7_isLong_10 : decode cX7_isLong 10 = .ok (.if_icmp .ge 34, 3) := by decide +kernel
theorem dX7_isLong_13 : decode cX7_isLong 13 = .ok (.aload_n 0, 1) := by decide +kernel
theorem dX7_isLong_14 : decode cX7_isLong 14 = .ok (.iload_n 2, 1) := by decide +kernel
theorem dX7_isLong_15 : decode cX7_isLong 15 = .ok (.invokevirtual 87, 3) := by decide +kernel
theorem dX7_isLong_18 : decode cX7_isLong 18 = .ok (.iload_n 1, 1) := by decide +kernel
theorem dX7_isLong_19 : decode cX7_isLong 19 = .ok (.if_icmp .ne 19, 3) := by decide +kernel
theorem dX7_isLong_22 : decode cX7_isLong 22 = .ok (.aload_n 0, 1) := by decide +kernel
theorem dX7_isLong_23 : decode cX7_isLong 23 = .ok (.iload_n 2, 1) := by decide +kernel
theorem dX7_isLong_24 : decode cX7_isLong 24 = .ok (.invokevirtual 124, 3) := by decide +kernel
theorem dX7_isLong_27 : decode cX7_isLong 27 = .ok (.aload_n 0, 1) := by decide +kernel
theorem dX7_isLong_28 : decode cX7_isLong 28 = .ok (.getfield 7, 3) := by decide +kernel
theorem dX7_isLong_31 : decode cX7_isLong 31 = .ok (.iconst 3, 1) := by decide +kernel
theorem dX7_isLong_32 : decode cX7_isLong 32 = .ok (.iaload, 1) := by decide +kernel
theorem dX7_isLong_33 : decode cX7_isLong 33 = .ok (.if_icmp .ge 5, 3) := by decide +kernel
theorem dX7_isLong_36 : decode cX7_isLong 36 = .ok (.iconst 0, 1) := by decide +kernel
theorem dX7_isLong_37 : decode cX7_isLong 37 = .ok (.ireturn, 1) := by decide +kernel
theorem dX7_isLong_38 : decode cX7_isLong 38 = .ok (.iinc 2 1, 3) := by decide +kernel
theorem dX7_isLong_41 : decode cX7_isLong 41 = .ok (.goto (-39), 3) := by decide +kernel
theorem dX7_isLong_44 : decode cX7_isLong 44 = .ok (.iconst 1, 1) := by decide +kernel
theorem dX7_isLong_45 : decode cX7_isLong 45 = .ok (.ireturn, 1) := by decide +kernel
theorem dX7_goes_0 : decode cX7_goes 0 = .ok (.bipush 50, 2) := by decide +kernel
theorem dX7_goes_2 : decode cX7_goes 2 = .ok (.iconst 5, 1) := by decide +kernel
theorem dX7_goes_3 : decode cX7_goes 3 = .ok (.iload_n 1, 1) := by decide +kernel
theorem dX7_goes_4 : decode cX7_goes 4 = .ok (.imul, 1) := by decide +kernel
theorem dX7_goes_5 : decode cX7_goes 5 = .ok (.iadd, 1) := by decide +kernel
theorem dX7_goes_6 : decode cX7_goes 6 = .ok (.istore_n 2, 1) := by decide +kernel
theorem dX7_goes_7 : decode cX7_goes 7 = .ok (.aload_n 0, 1) := by decide +kernel
theorem dX7_goes_8 : decode cX7_goes 8 = .ok (.getfield 7, 3) := by decide +kernel
theorem dX7_goes_11 : decode cX7_goes 11 = .ok (.iload_n 2, 1) := by decide +kernel
theorem dX7_goes_12 : decode cX7_goes 12 = .ok (.iaload, 1) := by decide +kernel
theorem dX7_goes_13 : decode cX7_goes 13 = .ok (.istore_n 3, 1) := by decide +kernel
theorem dX7_goes_14 : decode cX7_goes 14 = .ok (.aload_n 0, 1) := by decide +kernel
theorem dX7_goes_15 : decode cX7_goes 15 = .ok (.getfield 7, 3) := by decide +kernel
theorem dX7_goes_18 : decode cX7_goes 18 = .ok (.iload_n 2, 1) := by decide +kernel
theorem dX7_goes_19 : decode cX7_goes 19 = .ok (.iconst 1, 1) := by decide +kernel
theorem dX7_goes_20 : decode cX7_goes 20 = .ok (.iadd, 1) := by decide +kernel
theorem dX7_goes_21 : decode cX7_goes 21 = .ok (.iaload, 1) := by decide +kernel
theorem dX7_goes_22 : decode cX7_goes 22 = .ok (.istore 4, 2) := by decide +kernel
theorem dX7_goes_24 : decode cX7_goes 24 = .ok (.aload_n 0, 1) := by decide +kernel
theorem dX7_goes_25 : decode cX7_goes 25 = .ok (.getfield 7, 3) := by decide +kernel
theorem dX7_goes_28 : decode cX7_goes 28 = .ok (.iload_n 2, 1) := by decide +kernel
theorem dX7_goes_29 : decode cX7_goes 29 = .ok (.iconst 2, 1) := by decide +kernel
theorem dX7_goes_30 : decode cX7_goes 30 = .ok (.iadd, 1) := by decide +kernel
theorem dX7_goes_31 : decode cX7_goes 31 = .ok (.iaload, 1) := by decide +kernel
theorem dX7_goes_32 : decode cX7_goes 32 = .ok (.istore 5, 2) := by decide +kernel
theorem dX7_goes_34 : decode cX7_goes 34 = .ok (.aload_n 0, 1) := by decide +kernel
theorem dX7_goes_35 : decode cX7_goes 35 = .ok (.getfield 7, 3) := by decide +kernel
theorem dX7_goes_38 : decode cX7_goes 38 = .ok (.iload_n 2, 1) := by decide +kernel
theorem dX7_goes_39 : decode cX7_goes 39 = .ok (.iconst 3, 1) := by decide +kernel
theorem dX7_goes_40 : decode cX7_goes 40 = .ok (.iadd, 1) := by decide +kernel
theorem dX7_goes_41 : decode cX7_goes 41 = .ok (.iaload, 1) := by decide +kernel
theorem dX7_goes_42 : decode cX7_goes 42 = .ok (.istore 6, 2) := by decide +kernel
theorem dX7_goes_44 : decode cX7_goes 44 = .ok (.aload_n 0, 1) := by decide +kernel
theorem dX7_goes_45 : decode cX7_goes 45 = .ok (.getfield 7, 3) := by decide +kernel
theorem dX7_goes_48 : decode cX7_goes 48 = .ok (.iload_n 2, 1) := by decide +kernel
theorem dX7_goes_49 : decode cX7_goes 49 = .ok (.iconst 4, 1) := by decide +kernel
theorem dX7_goes_50 : decode cX7_goes 50 = .ok (.iadd, 1) := by decide +kernel
theorem dX7_goes_51 : decode cX7_goes 51 = .ok (.iaload, 1) := by decide +kernel
theorem dX7_goes_52 : decode cX7_goes 52 = .ok (.istore 7, 2) := by decide +kernel
theorem dX7_goes_54 : decode cX7_goes 54 = .ok (.aload_n 0, 1) := by decide +kernel
theorem dX7_goes_55 : decode cX7_goes 55 = .ok (.iload 5, 2) := by decide +kernel
theorem dX7_goes_57 : decode cX7_goes 57 = .ok (.iload 5, 2) := by decide +kernel
theorem dX7_goes_59 : decode cX7_goes 59 = .ok (.iload 6, 2) := by decide +kernel
theorem dX7_goes_61 : decode cX7_goes 61 = .ok (.iadd, 1) := by decide +kernel
theorem dX7_goes_62 : decode cX7_goes 62 = .ok (.iload_n 3, 1) := by decide +kernel
theorem dX7_goes_63 : decode cX7_goes 63 = .ok (.invokevirtual 97, 3) := by decide +kernel
theorem dX7_goes_66 : decode cX7_goes 66 = .ok (.iload 6, 2) := by decide +kernel
theorem dX7_goes_68 : decode cX7_goes 68 = .ok (.if_icmp .lt 35, 3) := by decide +kernel
theorem dX7_goes_71 : decode cX7_goes 71 = .ok (.aload_n 0, 1) := by decide +kernel
theorem dX7_goes_72 : decode cX7_goes 72 = .ok (.getfield 13, 3) := by decide +kernel
theorem dX7_goes_75 : decode cX7_goes 75 = .ok (.iload 4, 2) := by decide +kernel
theorem dX7_goes_77 : decode cX7_goes 77 = .ok (.laload, 1) := by decide +kernel
theorem dX7_goes_78 : decode cX7_goes 78 = .ok (.iload 7, 2) := by decide +kernel
theorem dX7_goes_80 : decode cX7_goes 80 = .ok (.aload_n 0, 1) := by decide +kernel
theorem dX7_goes_81 : decode cX7_goes 81 = .ok (.getfield 7, 3) := by decide +kernel
theorem dX7_goes_84 : decode cX7_goes 84 = .ok (.iconst 2, 1) := by decide +kernel
theorem dX7_goes_85 : decode cX7_goes 85 = .ok (.iaload, 1) := by decide +kernel
theorem dX7_goes_86 : decode cX7_goes 86 = .ok (.iadd, 1) := by decide +kernel
theorem dX7_goes_87 : decode cX7_goes 87 = .ok (.i2l, 1) := by decide +kernel
theorem dX7_goes_88 : decode cX7_goes 88 = .ok (.lcmp, 1) := by decide +kernel
theorem dX7_goes_89 : decode cX7_goes 89 = .ok (.ifCond .lt 14, 3) := by decide +kernel
theorem dX7_goes_92 : decode cX7_goes 92 = .ok (.aload_n 0, 1) := by decide +kernel
theorem dX7_goes_93 : decode cX7_goes 93 = .ok (.iload 4, 2) := by decide +kernel
theorem dX7_goes_95 : decode cX7_goes 95 = .ok (.iload 6, 2) := by decide +kernel
theorem dX7_goes_97 : decode cX7_goes 97 = .ok (.invokevirtual 115, 3) := by decide +kernel
theorem dX7_goes_100 : decode cX7_goes 100 = .ok (.ifCond .ne 5, 3) := by decide +kernel
theorem dX7_goes_103 : decode cX7_goes 103 = .ok (.iconst 0, 1) := by decide +kernel
theorem dX7_goes_104 : decode cX7_goes 104 = .ok (.ireturn, 1) := by decide +kernel
theorem dX7_goes_105 : decode cX7_goes 105 = .ok (.aload_n 0, 1) := by decide +kernel
theorem dX7_goes_106 : decode cX7_goes 106 = .ok (.iload 5, 2) := by decide +kernel
theorem dX7_goes_108 : decode cX7_goes 108 = .ok (.iload 5, 2) := by decide +kernel
theorem dX7_goes_110 : decode cX7_goes 110 = .ok (.iload 6, 2) := by decide +kernel
theorem dX7_goes_112 : decode cX7_goes 112 = .ok (.iadd, 1) := by decide +kernel
theorem dX7_goes_113 : decode cX7_goes 113 = .ok (.iload 4, 2) := by decide +kernel
theorem dX7_goes_115 : decode cX7_goes 115 = .ok (.invokevirtual 108, 3) := by decide +kernel
theorem dX7_goes_118 : decode cX7_goes 118 = .ok (.aload_n 0, 1) := by decide +kernel
theorem dX7_goes_119 : decode cX7_goes 119 = .ok (.invokevirtual 111, 3) := by decide +kernel
theorem dX7_goes_122 : decode cX7_goes 122 = .ok (.bipush 40, 2) := by decide +kernel
theorem dX7_goes_124 : decode cX7_goes 124 = .ok (.if_icmp .le 5, 3) := by decide +kernel
theorem dX7_goes_127 : decode cX7_goes 127 = .ok (.iconst 0, 1) := by decide +kernel
theorem dX7_goes_128 : decode cX7_goes 128 = .ok (.ireturn, 1) := by decide +kernel
theorem dX7_goes_129 : decode cX7_goes 129 = .ok (.aload_n 0, 1) := by decide +kernel
theorem dX7_goes_130 : decode cX7_goes 130 = .ok (.invokevirtual 118, 3) := by decide +kernel
theorem dX7_goes_133 : decode cX7_goes 133 = .ok (.aload_n 0, 1) := by decide +kernel
theorem dX7_goes_134 : decode cX7_goes 134 = .ok (.getfield 13, 3) := by decide +kernel
theorem dX7_goes_137 : decode cX7_goes 137 = .ok (.iload 4, 2) := by decide +kernel
theorem dX7_goes_139 : decode cX7_goes 139 = .ok (.dup2, 1) := by decide +kernel
theorem dX7_goes_140 : decode cX7_goes 140 = .ok (.laload, 1) := by decide +kernel
theorem dX7_goes_141 : decode cX7_goes 141 = .ok (.iload 7, 2) := by decide +kernel
theorem dX7_goes_143 : decode cX7_goes 143 = .ok (.aload_n 0, 1) := by decide +kernel
theorem dX7_goes_144 : decode cX7_goes 144 = .ok (.getfield 7, 3) := by decide +kernel
theorem dX7_goes_147 : decode cX7_goes 147 = .ok (.iconst 2, 1) := by decide +kernel
theorem dX7_goes_148 : decode cX7_goes 148 = .ok (.iaload, 1) := by decide +kernel
theorem dX7_goes_149 : decode cX7_goes 149 = .ok (.iadd, 1) := by decide +kernel
theorem dX7_goes_150 : decode cX7_goes 150 = .ok (.i2l, 1) := by decide +kernel
theorem dX7_goes_151 : decode cX7_goes 151 = .ok (.lsub, 1) := by decide +kernel
theorem dX7_goes_152 : decode cX7_goes 152 = .ok (.lastore, 1) := by decide +kernel
theorem dX7_goes_153 : decode cX7_goes 153 = .ok (.aload_n 0, 1) := by decide +kernel
theorem dX7_goes_154 : decode cX7_goes 154 = .ok (.getfield 13, 3) := by decide +kernel
theorem dX7_goes_157 : decode cX7_goes 157 = .ok (.iload_n 3, 1) := by decide +kernel
theorem dX7_goes_158 : decode cX7_goes 158 = .ok (.dup2, 1) := by decide +kernel
theorem dX7_goes_159 : decode cX7_goes 159 = .ok (.laload, 1) := by decide +kernel
theorem dX7_goes_160 : decode cX7_goes 160 = .ok (.iload 7, 2) := by decide +kernel
theorem dX7_goes_162 : decode cX7_goes 162 = .ok (.i2l, 1) := by decide +kernel
theorem dX7_goes_163 : decode cX7_goes 163 = .ok (.ladd, 1) := by decide +kernel
theorem dX7_goes_164 : decode cX7_goes 164 = .ok (.lastore, 1) := by decide +kernel
theorem dX7_goes_165 : decode cX7_goes 165 = .ok (.aload_n 0, 1) := by decide +kernel
theorem dX7_goes_166 : decode cX7_goes 166 = .ok (.getfield 7, 3) := by decide +kernel
theorem dX7_goes_169 : decode cX7_goes 169 = .ok (.bipush 10, 2) := by decide +kernel
theorem dX7_goes_171 : decode cX7_goes 171 = .ok (.dup2, 1) := by decide +kernel
theorem dX7_goes_172 : decode cX7_goes 172 = .ok (.iaload, 1) := by decide +kernel
theorem dX7_goes_173 : decode cX7_goes 173 = .ok (.aload_n 0, 1) := by decide +kernel
theorem dX7_goes_174 : decode cX7_goes 174 = .ok (.getfield 7, 3) := by decide +kernel
theorem dX7_goes_177 : decode cX7_goes 177 = .ok (.iconst 2, 1) := by decide +kernel
theorem dX7_goes_178 : decode cX7_goes 178 = .ok (.iaload, 1) := by decide +kernel
theorem dX7_goes_179 : decode cX7_goes 179 = .ok (.iadd, 1) := by decide +kernel
theorem dX7_goes_180 : decode cX7_goes 180 = .ok (.iastore, 1) := by decide +kernel
theorem dX7_goes_181 : decode cX7_goes 181 = .ok (.aload_n 0, 1) := by decide +kernel
theorem dX7_goes_182 : decode cX7_goes 182 = .ok (.iload_n 3, 1) := by decide +kernel
theorem dX7_goes_183 : decode cX7_goes 183 = .ok (.invokevirtual 135, 3) := by decide +kernel
theorem dX7_goes_186 : decode cX7_goes 186 = .ok (.ifCond .eq 16, 3) := by decide +kernel
theorem dX7_goes_189 : decode cX7_goes 189 = .ok (.aload_n 0, 1) := by decide +kernel
theorem dX7_goes_190 : decode cX7_goes 190 = .ok (.iload 4, 2) := by decide +kernel
theorem dX7_goes_192 : decode cX7_goes 192 = .ok (.invokevirtual 135, 3) := by decide +kernel
theorem dX7_goes_195 : decode cX7_goes 195 = .ok (.ifCond .eq 7, 3) := by decide +kernel
theorem dX7_goes_198 : decode cX7_goes 198 = .ok (.iconst 1, 1) := by decide +kernel
theorem dX7_goes_199 : decode cX7_goes 199 = .ok (.goto 4, 3) := by decide +kernel
theorem dX7_goes_202 : decode cX7_goes 202 = .ok (.iconst 0, 1) := by decide +kernel
theorem dX7_goes_203 : decode cX7_goes 203 = .ok (.ireturn, 1) := by decide +kernel
theorem dX7_doDeal_0 : decode cX7_doDeal 0 = .ok (.iconst 0, 1) := by decide +kernel
theorem dX7_doDeal_1 : decode cX7_doDeal 1 = .ok (.istore_n 1, 1) := by decide +kernel
theorem dX7_doDeal_2 : decode cX7_doDeal 2 = .ok (.iload_n 1, 1) := by decide +kernel
theorem dX7_doDeal_3 : decode cX7_doDeal 3 = .ok (.aload_n 0, 1) := by decide +kernel
theorem dX7_doDeal_4 : decode cX7_doDeal 4 = .ok (.getfield 7, 3) := by decide +kernel
theorem dX7_doDeal_7 : decode cX7_doDeal 7 = .ok (.bipush 8, 2) := by decide +kernel
theorem dX7_doDeal_9 : decode cX7_doDeal 9 = .ok (.iaload, 1) := by decide +kernel
theorem dX7_doDeal_10 : decode cX7_doDeal 10 = .ok (.if_icmp .ge 19, 3) := by decide +kernel
theorem dX7_doDeal_13 : decode cX7_doDeal 13 = .ok (.aload_n 0, 1) := by decide +kernel
theorem dX7_doDeal_14 : decode cX7_doDeal 14 = .ok (.iload_n 1, 1) := by decide +kernel
theorem dX7_doDeal_15 : decode cX7_doDeal 15 = .ok (.invokevirtual 138, 3) := by decide +kernel
theorem dX7_doDeal_18 : decode cX7_doDeal 18 = .ok (.ifCond .ne 5, 3) := by decide +kernel
theorem dX7_doDeal_21 : decode cX7_doDeal 21 = .ok (.iload_n 1, 1) := by decide +kernel
theorem dX7_doDeal_22 : decode cX7_doDeal 22 = .ok (.ireturn, 1) := by decide +kernel
theorem dX7_doDeal_23 : decode cX7_doDeal 23 = .ok (.iinc 1 1, 3) := by decide +kernel
theorem dX7_doDeal_26 : decode cX7_doDeal 26 = .ok (.goto (-24), 3) := by decide +kernel
theorem dX7_doDeal_29 : decode cX7_doDeal 29 = .ok (.bipush (-6), 2) := by decide +kernel
theorem dX7_doDeal_31 : decode cX7_doDeal 31 = .ok (.ireturn, 1) := by decide +kernel
theorem dX7_failing_0 : decode cX7_failing 0 = .ok (.aload_n 0, 1) := by decide +kernel
theorem dX7_failing_1 : decode cX7_failing 1 = .ok (.invokevirtual 141, 3) := by decide +kernel
theorem dX7_failing_4 : decode cX7_failing 4 = .ok (.aload_n 0, 1) := by decide +kernel
theorem dX7_failing_5 : decode cX7_failing 5 = .ok (.invokevirtual 144, 3) := by decide +kernel
theorem dX7_failing_8 : decode cX7_failing 8 = .ok (.istore_n 1, 1) := by decide +kernel
theorem dX7_failing_9 : decode cX7_failing 9 = .ok (.aload_n 0, 1) := by decide +kernel
theorem dX7_failing_10 : decode cX7_failing 10 = .ok (.invokevirtual 147, 3) := by decide +kernel
theorem dX7_failing_13 : decode cX7_failing 13 = .ok (.iload_n 1, 1) := by decide +kernel
theorem dX7_failing_14 : decode cX7_failing 14 = .ok (.ireturn, 1) := by decide +kernel
theorem dX7_close_0 : decode cX7_close 0 = .ok (.aload_n 0, 1) := by decide +kernel
theorem dX7_close_1 : decode cX7_close 1 = .ok (.getfield 7, 3) := by decide +kernel
theorem dX7_close_4 : decode cX7_close 4 = .ok (.bipush 8, 2) := by decide +kernel
theorem dX7_close_6 : decode cX7_close 6 = .ok (.iaload, 1) := by decide +kernel
theorem dX7_close_7 : decode cX7_close 7 = .ok (.ifCond .eq 10, 3) := by decide +kernel
theorem dX7_close_10 : decode cX7_close 10 = .ok (.aload_n 0, 1) := by decide +kernel
theorem dX7_close_11 : decode cX7_close 11 = .ok (.invokevirtual 150, 3) := by decide +kernel
theorem dX7_close_14 : decode cX7_close 14 = .ok (.ifCond .lt 6, 3) := by decide +kernel
theorem dX7_close_17 : decode cX7_close 17 = .ok (.bipush (-5), 2) := by decide +kernel
theorem dX7_close_19 : decode cX7_close 19 = .ok (.ireturn, 1) := by decide +kernel
theorem dX7_close_20 : decode cX7_close 20 = .ok (.aload_n 0, 1) := by decide +kernel
theorem dX7_close_21 : decode cX7_close 21 = .ok (.invokevirtual 73, 3) := by decide +kernel
theorem dX7_close_24 : decode cX7_close 24 = .ok (.aload_n 0, 1) := by decide +kernel
theorem dX7_close_25 : decode cX7_close 25 = .ok (.invokevirtual 144, 3) := by decide +kernel
theorem dX7_close_28 : decode cX7_close 28 = .ok (.pop, 1) := by decide +kernel
theorem dX7_close_29 : decode cX7_close 29 = .ok (.aload_n 0, 1) := by decide +kernel
theorem dX7_close_30 : decode cX7_close 30 = .ok (.getfield 7, 3) := by decide +kernel
theorem dX7_close_33 : decode cX7_close 33 = .ok (.bipush 8, 2) := by decide +kernel
theorem dX7_close_35 : decode cX7_close 35 = .ok (.iaload, 1) := by decide +kernel
theorem dX7_close_36 : decode cX7_close 36 = .ok (.istore_n 1, 1) := by decide +kernel
theorem dX7_close_37 : decode cX7_close 37 = .ok (.aload_n 0, 1) := by decide +kernel
theorem dX7_close_38 : decode cX7_close 38 = .ok (.getfield 7, 3) := by decide +kernel
theorem dX7_close_41 : decode cX7_close 41 = .ok (.bipush 8, 2) := by decide +kernel
theorem dX7_close_43 : decode cX7_close 43 = .ok (.iconst 0, 1) := by decide +kernel
theorem dX7_close_44 : decode cX7_close 44 = .ok (.iastore, 1) := by decide +kernel
theorem dX7_close_45 : decode cX7_close 45 = .ok (.aload_n 0, 1) := by decide +kernel
theorem dX7_close_46 : decode cX7_close 46 = .ok (.getfield 7, 3) := by decide +kernel
theorem dX7_close_49 : decode cX7_close 49 = .ok (.bipush 9, 2) := by decide +kernel
theorem dX7_close_51 : decode cX7_close 51 = .ok (.dup2, 1) := by decide +kernel
theorem dX7_close_52 : decode cX7_close 52 = .ok (.iaload, 1) := by decide +kernel
theorem dX7_close_53 : decode cX7_close 53 = .ok (.iconst 1, 1) := by decide +kernel
theorem dX7_close_54 : decode cX7_close 54 = .ok (.iadd, 1) := by decide +kernel
theorem dX7_close_55 : decode cX7_close 55 = .ok (.iastore, 1) := by decide +kernel
theorem dX7_close_56 : decode cX7_close 56 = .ok (.iload_n 1, 1) := by decide +kernel
theorem dX7_close_57 : decode cX7_close 57 = .ok (.ireturn, 1) := by decide +kernel
theorem dX7_lengthTax_0 : decode cX7_lengthTax 0 = .ok (.iload_n 1, 1) := by decide +kernel
theorem dX7_lengthTax_1 : decode cX7_lengthTax 1 = .ok (.bipush 9, 2) := by decide +kernel
theorem dX7_lengthTax_3 : decode cX7_lengthTax 3 = .ok (.iadd, 1) := by decide +kernel
theorem dX7_lengthTax_4 : decode cX7_lengthTax 4 = .ok (.bipush 10, 2) := by decide +kernel
theorem dX7_lengthTax_6 : decode cX7_lengthTax 6 = .ok (.idiv, 1) := by decide +kernel
theorem dX7_lengthTax_7 : decode cX7_lengthTax 7 = .ok (.aload_n 0, 1) := by decide +kernel
theorem dX7_lengthTax_8 : decode cX7_lengthTax 8 = .ok (.getfield 7, 3) := by decide +kernel
theorem dX7_lengthTax_11 : decode cX7_lengthTax 11 = .ok (.iconst 0, 1) := by decide +kernel
theorem dX7_lengthTax_12 : decode cX7_lengthTax 12 = .ok (.iaload, 1) := by decide +kernel
theorem dX7_lengthTax_13 : decode cX7_lengthTax 13 = .ok (.imul, 1) := by decide +kernel
theorem dX7_lengthTax_14 : decode cX7_lengthTax 14 = .ok (.ireturn, 1) := by decide +kernel
theorem dX7_manyOf_0 : decode cX7_manyOf 0 = .ok (.iconst 0, 1) := by decide +kernel
theorem dX7_manyOf_1 : decode cX7_manyOf 1 = .ok (.istore_n 2, 1) := by decide +kernel
theorem dX7_manyOf_2 : decode cX7_manyOf 2 = .ok (.iconst 0, 1) := by decide +kernel
theorem dX7_manyOf_3 : decode cX7_manyOf 3 = .ok (.istore_n 3, 1) := by decide +kernel
theorem dX7_manyOf_4 : decode cX7_manyOf 4 = .ok (.iload_n 3, 1) := by decide +kernel
theorem dX7_manyOf_5 : decode cX7_manyOf 5 = .ok (.aload_n 0, 1) := by decide +kernel
theorem dX7_manyOf_6 : decode cX7_manyOf 6 = .ok (.getfield 7, 3) := by decide +kernel
theorem dX7_manyOf_9 : decode cX7_manyOf 9 = .ok (.bipush 7, 2) := by decide +kernel
theorem dX7_manyOf_11 : decode cX7_manyOf 11 = .ok (.iaload, 1) := by decide +kernel
theorem dX7_manyOf_12 : decode cX7_manyOf 12 = .ok (.if_icmp .ge 26, 3) := by decide +kernel
theorem dX7_manyOf_15 : decode cX7_manyOf 15 = .ok (.iload_n 2, 1) := by decide +kernel
theorem dX7_manyOf_16 : decode cX7_manyOf 16 = .ok (.aload_n 0, 1) := by decide +kernel
theorem dX7_manyOf_17 : decode cX7_manyOf 17 = .ok (.iload_n 3, 1) := by decide +kernel
theorem dX7_manyOf_18 : decode cX7_manyOf 18 = .ok (.invokevirtual 87, 3) := by decide +kernel
theorem dX7_manyOf_21 : decode cX7_manyOf 21 = .ok (.iload_n 1, 1) := by decide +kernel
theorem dX7_manyOf_22 : decode cX7_manyOf 22 = .ok (.if_icmp .ne 7, 3) := by decide +kernel
theorem dX7_manyOf_25 : decode cX7_manyOf 25 = .ok (.iconst 1, 1) := by decide +kernel
theorem dX7_manyOf_26 : decode cX7_manyOf 26 = .ok (.goto 4, 3) := by decide +kernel
theorem dX7_manyOf_29 : decode cX7_manyOf 29 = .ok (.iconst 0, 1) := by decide +kernel
theorem dX7_manyOf_30 : decode cX7_manyOf 30 = .ok (.iadd, 1) := by decide +kernel
theorem dX7_manyOf_31 : decode cX7_manyOf 31 = .ok (.istore_n 2, 1) := by decide +kernel
theorem dX7_manyOf_32 : decode cX7_manyOf 32 = .ok (.iinc 3 1, 3) := by decide +kernel
theorem dX7_manyOf_35 : decode cX7_manyOf 35 = .ok (.goto (-31), 3) := by decide +kernel
theorem dX7_manyOf_38 : decode cX7_manyOf 38 = .ok (.iload_n 2, 1) := by decide +kernel
theorem dX7_manyOf_39 : decode cX7_manyOf 39 = .ok (.ireturn, 1) := by decide +kernel
theorem dX7_taxOf_0 : decode cX7_taxOf 0 = .ok (.aload_n 0, 1) := by decide +kernel
theorem dX7_taxOf_1 : decode cX7_taxOf 1 = .ok (.iload_n 1, 1) := by decide +kernel
theorem dX7_taxOf_2 : decode cX7_taxOf 2 = .ok (.invokevirtual 153, 3) := by decide +kernel
theorem dX7_taxOf_5 : decode cX7_taxOf 5 = .ok (.aload_n 0, 1) := by decide +kernel
theorem dX7_taxOf_6 : decode cX7_taxOf 6 = .ok (.getfield 7, 3) := by decide +kernel
theorem dX7_taxOf_9 : decode cX7_taxOf 9 = .ok (.iconst 1, 1) := by decide +kernel
theorem dX7_taxOf_10 : decode cX7_taxOf 10 = .ok (.iaload, 1) := by decide +kernel
theorem dX7_taxOf_11 : decode cX7_taxOf 11 = .ok (.imul, 1) := by decide +kernel
theorem dX7_taxOf_12 : decode cX7_taxOf 12 = .ok (.aload_n 0, 1) := by decide +kernel
theorem dX7_taxOf_13 : decode cX7_taxOf 13 = .ok (.aload_n 0, 1) := by decide +kernel
theorem dX7_taxOf_14 : decode cX7_taxOf 14 = .ok (.iload_n 1, 1) := by decide +kernel
theorem dX7_taxOf_15 : decode cX7_taxOf 15 = .ok (.invokevirtual 101, 3) := by decide +kernel
theorem dX7_taxOf_18 : decode cX7_taxOf 18 = .ok (.invokevirtual 156, 3) := by decide +kernel
theorem dX7_taxOf_21 : decode cX7_taxOf 21 = .ok (.iadd, 1) := by decide +kernel
theorem dX7_taxOf_22 : decode cX7_taxOf 22 = .ok (.ireturn, 1) := by decide +kernel
theorem dX7_shortestOf_0 : decode cX7_shortestOf 0 = .ok (.bipush (-6), 2) := by decide +kernel
theorem dX7_shortestOf_2 : decode cX7_shortestOf 2 = .ok (.istore_n 2, 1) := by decide +kernel
theorem dX7_shortestOf_3 : decode cX7_shortestOf 3 = .ok (.iconst 0, 1) := by decide +kernel
theorem dX7_shortestOf_4 : decode cX7_shortestOf 4 = .ok (.istore_n 3, 1) := by decide +kernel
theorem dX7_shortestOf_5 : decode cX7_shortestOf 5 = .ok (.iload_n 3, 1) := by decide +kernel
theorem dX7_shortestOf_6 : decode cX7_shortestOf 6 = .ok (.aload_n 0, 1) := by decide +kernel
theorem dX7_shortestOf_7 : decode cX7_shortestOf 7 = .ok (.getfield 7, 3) := by decide +kernel
theorem dX7_shortestOf_10 : decode cX7_shortestOf 10 = .ok (.bipush 7, 2) := by decide +kernel
theorem dX7_shortestOf_12 : decode cX7_shortestOf 12 = .ok (.iaload, 1) := by decide +kernel
theorem dX7_shortestOf_13 : decode cX7_shortestOf 13 = .ok (.if_icmp .ge 41, 3) := by decide +kernel
theorem dX7_shortestOf_16 : decode cX7_shortestOf 16 = .ok (.aload_n 0, 1) := by decide +kernel
theorem dX7_shortestOf_17 : decode cX7_shortestOf 17 = .ok (.iload_n 3, 1) := by decide +kernel
theorem dX7_shortestOf_18 : decode cX7_shortestOf 18 = .ok (.invokevirtual 87, 3) := by decide +kernel
theorem dX7_shortestOf_21 : decode cX7_shortestOf 21 = .ok (.iload_n 1, 1) := by decide +kernel
theorem dX7_shortestOf_22 : decode cX7_shortestOf 22 = .ok (.if_icmp .ne 24, 3) := by decide +kernel
theorem dX7_shortestOf_25 : decode cX7_shortestOf 25 = .ok (.iload_n 2, 1) := by decide +kernel
theorem dX7_shortestOf_26 : decode cX7_shortestOf 26 = .ok (.ifCond .lt 16, 3) := by decide +kernel
theorem dX7_shortestOf_29 : decode cX7_shortestOf 29 = .ok (.aload_n 0, 1) := by decide +kernel
theorem dX7_shortestOf_30 : decode cX7_shortestOf 30 = .ok (.iload_n 3, 1) := by decide +kernel
theorem dX7_shortestOf_31 : decode cX7_shortestOf 31 = .ok (.invokevirtual 124, 3) := by decide +kernel
theorem dX7_shortestOf_34 : decode cX7_shortestOf 34 = .ok (.aload_n 0, 1) := by decide +kernel
theorem dX7_shortestOf_35 : decode cX7_shortestOf 35 = .ok (.iload_n 2, 1) := by decide +kernel
theorem dX7_shortestOf_36 : decode cX7_shortestOf 36 = .ok (.invokevirtual 124, 3) := by decide +kernel
theorem dX7_shortestOf_39 : decode cX7_shortestOf 39 = .ok (.if_icmp .gt 7, 3) := by decide +kernel
theorem dX7_shortestOf_42 : decode cX7_shortestOf 42 = .ok (.iload_n 3, 1) := by decide +kernel
theorem dX7_shortestOf_43 : decode cX7_shortestOf 43 = .ok (.goto 4, 3) := by decide +kernel
theorem dX7_shortestOf_46 : decode cX7_shortestOf 46 = .ok (.iload_n 2, 1) := by decide +kernel
theorem dX7_shortestOf_47 : decode cX7_shortestOf 47 = .ok (.istore_n 2, 1) := by decide +kernel
theorem dX7_shortestOf_48 : decode cX7_shortestOf 48 = .ok (.iinc 3 1, 3) := by decide +kernel
theorem dX7_shortestOf_51 : decode cX7_shortestOf 51 = .ok (.goto (-46), 3) := by decide +kernel
theorem dX7_shortestOf_54 : decode cX7_shortestOf 54 = .ok (.iload_n 2, 1) := by decide +kernel
theorem dX7_shortestOf_55 : decode cX7_shortestOf 55 = .ok (.ireturn, 1) := by decide +kernel
theorem dX7_passDay_0 : decode cX7_passDay 0 = .ok (.iconst 0, 1) := by decide +kernel
theorem dX7_passDay_1 : decode cX7_passDay 1 = .ok (.istore_n 1, 1) := by decide +kernel
theorem dX7_passDay_2 : decode cX7_passDay 2 = .ok (.iload_n 1, 1) := by decide +kernel
theorem dX7_passDay_3 : decode cX7_passDay 3 = .ok (.aload_n 0, 1) := by decide +kernel
theorem dX7_passDay_4 : decode cX7_passDay 4 = .ok (.getfield 7, 3) := by decide +kernel
theorem dX7_passDay_7 : decode cX7_passDay 7 = .ok (.bipush 6, 2) := by decide +kernel
theorem dX7_passDay_9 : decode cX7_passDay 9 = .ok (.iaload, 1) := by decide +kernel
theorem dX7_passDay_10 : decode cX7_passDay 10 = .ok (.if_icmp .ge 157, 3) := by decide +kernel
theorem dX7_passDay_13 : decode cX7_passDay 13 = .ok (.aload_n 0, 1) := by decide +kernel
theorem dX7_passDay_14 : decode cX7_passDay 14 = .ok (.iload_n 1, 1) := by decide +kernel
theorem dX7_passDay_15 : decode cX7_passDay 15 = .ok (.invokevirtual 159, 3) := by decide +kernel
theorem dX7_passDay_18 : decode cX7_passDay 18 = .ok (.istore_n 2, 1) := by decide +kernel
theorem dX7_passDay_19 : decode cX7_passDay 19 = .ok (.aload_n 0, 1) := by decide +kernel
theorem dX7_passDay_20 : decode cX7_passDay 20 = .ok (.getfield 13, 3) := by decide +kernel
theorem dX7_passDay_23 : decode cX7_passDay 23 = .ok (.iload_n 1, 1) := by decide +kernel
theorem dX7_passDay_24 : decode cX7_passDay 24 = .ok (.dup2, 1) := by decide +kernel
theorem dX7_passDay_25 : decode cX7_passDay 25 = .ok (.laload, 1) := by decide +kernel
theorem dX7_passDay_26 : decode cX7_passDay 26 = .ok (.iload_n 2, 1) := by decide +kernel
theorem dX7_passDay_27 : decode cX7_passDay 27 = .ok (.i2l, 1) := by decide +kernel
theorem dX7_passDay_28 : decode cX7_passDay 28 = .ok (.lsub, 1) := by decide +kernel
theorem dX7_passDay_29 : decode cX7_passDay 29 = .ok (.lastore, 1) := by decide +kernel
theorem dX7_passDay_30 : decode cX7_passDay 30 = .ok (.aload_n 0, 1) := by decide +kernel
theorem dX7_passDay_31 : decode cX7_passDay 31 = .ok (.getfield 7, 3) := by decide +kernel
theorem dX7_passDay_34 : decode cX7_passDay 34 = .ok (.bipush 20, 2) := by decide +kernel
theorem dX7_passDay_36 : decode cX7_passDay 36 = .ok (.iconst 2, 1) := by decide +kernel
theorem dX7_passDay_37 : decode cX7_passDay 37 = .ok (.iload_n 1, 1) := by decide +kernel
theorem dX7_passDay_38 : decode cX7_passDay 38 = .ok (.imul, 1) := by decide +kernel
theorem dX7_passDay_39 : decode cX7_passDay 39 = .ok (.iadd, 1) := by decide +kernel
theorem dX7_passDay_40 : decode cX7_passDay 40 = .ok (.dup2, 1) := by decide +kernel
theorem dX7_passDay_41 : decode cX7_passDay 41 = .ok (.iaload, 1) := by decide +kernel
theorem dX7_passDay_42 : decode cX7_passDay 42 = .ok (.iload_n 2, 1) := by decide +kernel
theorem dX7_passDay_43 : decode cX7_passDay 43 = .ok (.iadd, 1) := by decide +kernel
theorem dX7_passDay_44 : decode cX7_passDay 44 = .ok (.iastore, 1) := by decide +kernel
theorem dX7_passDay_45 : decode cX7_passDay 45 = .ok (.aload_n 0, 1) := by decide +kernel
theorem dX7_passDay_46 : decode cX7_passDay 46 = .ok (.iload_n 1, 1) := by decide +kernel
theorem dX7_passDay_47 : decode cX7_passDay 47 = .ok (.invokevirtual 162, 3) := by decide +kernel
theorem dX7_passDay_50 : decode cX7_passDay 50 = .ok (.istore_n 3, 1) := by decide +kernel
theorem dX7_passDay_51 : decode cX7_passDay 51 = .ok (.aload_n 0, 1) := by decide +kernel
theorem dX7_passDay_52 : decode cX7_passDay 52 = .ok (.getfield 13, 3) := by decide +kernel
theorem dX7_passDay_55 : decode cX7_passDay 55 = .ok (.iload_n 1, 1) := by decide +kernel
theorem dX7_passDay_56 : decode cX7_passDay 56 = .ok (.laload, 1) := by decide +kernel
theorem dX7_passDay_57 : decode cX7_passDay 57 = .ok (.lconst 0, 1) := by decide +kernel
theorem dX7_passDay_58 : decode cX7_passDay 58 = .ok (.lcmp, 1) := by decide +kernel
theorem dX7_passDay_59 : decode cX7_passDay 59 = .ok (.ifCond .ge 102, 3) := by decide +kernel
theorem dX7_passDay_62 : decode cX7_passDay 62 = .ok (.iload_n 3, 1) := by decide +kernel
theorem dX7_passDay_63 : decode cX7_passDay 63 = .ok (.ifCond .lt 98, 3) := by decide +kernel
theorem dX7_passDay_66 : decode cX7_passDay 66 = .ok (.aload_n 0, 1) := by decide +kernel
theorem dX7_passDay_67 : decode cX7_passDay 67 = .ok (.iload_n 1, 1) := by decide +kernel
theorem dX7_passDay_68 : decode cX7_passDay 68 = .ok (.invokevirtual 159, 3) := by decide +kernel
theorem dX7_passDay_71 : decode cX7_passDay 71 = .ok (.istore 4, 2) := by decide +kernel
theorem dX7_passDay_73 : decode cX7_passDay 73 = .ok (.aload_n 0, 1) := by decide +kernel
theorem dX7_passDay_74 : decode cX7_passDay 74 = .ok (.getfield 7, 3) := by decide +kernel
theorem dX7_passDay_77 : decode cX7_passDay 77 = .ok (.bipush 20, 2) := by decide +kernel
theorem dX7_passDay_79 : decode cX7_passDay 79 = .ok (.iconst 2, 1) := by decide +kernel
theorem dX7_passDay_80 : decode cX7_passDay 80 = .ok (.iload_n 1, 1) := by decide +kernel
theorem dX7_passDay_81 : decode cX7_passDay 81 = .ok (.imul, 1) := by decide +kernel
theorem dX7_passDay_82 : decode cX7_passDay 82 = .ok (.iadd, 1) := by decide +kernel
theorem dX7_passDay_83 : decode cX7_passDay 83 = .ok (.iconst 1, 1) := by decide +kernel
theorem dX7_passDay_84 : decode cX7_passDay 84 = .ok (.iadd, 1) := by decide +kernel
theorem dX7_passDay_85 : decode cX7_passDay 85 = .ok (.dup2, 1) := by decide +kernel
theorem dX7_passDay_86 : decode cX7_passDay 86 = .ok (.iaload, 1) := by decide +kernel
theorem dX7_passDay_87 : decode cX7_passDay 87 = .ok (.aload_n 0, 1) := by decide +kernel
theorem dX7_passDay_88 : decode cX7_passDay 88 = .ok (.iload_n 3, 1) := by decide +kernel
theorem dX7_passDay_89 : decode cX7_passDay 89 = .ok (.invokevirtual 124, 3) := by decide +kernel
theorem dX7_passDay_92 : decode cX7_passDay 92 = .ok (.iadd, 1) := by decide +kernel
theorem dX7_passDay_93 : decode cX7_passDay 93 = .ok (.iastore, 1) := by decide +kernel
theorem dX7_passDay_94 : decode cX7_passDay 94 = .ok (.aload_n 0, 1) := by decide +kernel
theorem dX7_passDay_95 : decode cX7_passDay 95 = .ok (.aload_n 0, 1) := by decide +kernel
theorem dX7_passDay_96 : decode cX7_passDay 96 = .ok (.iload_n 3, 1) := by decide +kernel
theorem dX7_passDay_97 : decode cX7_passDay 97 = .ok (.invokevirtual 81, 3) := by decide +kernel
theorem dX7_passDay_100 : decode cX7_passDay 100 = .ok (.aload_n 0, 1) := by decide +kernel
theorem dX7_passDay_101 : decode cX7_passDay 101 = .ok (.iload_n 3, 1) := by decide +kernel
theorem dX7_passDay_102 : decode cX7_passDay 102 = .ok (.invokevirtual 84, 3) := by decide +kernel
theorem dX7_passDay_105 : decode cX7_passDay 105 = .ok (.bipush (-6), 2) := by decide +kernel
theorem dX7_passDay_107 : decode cX7_passDay 107 = .ok (.invokevirtual 108, 3) := by decide +kernel
theorem dX7_passDay_110 : decode cX7_passDay 110 = .ok (.aload_n 0, 1) := by decide +kernel
theorem dX7_passDay_111 : decode cX7_passDay 111 = .ok (.invokevirtual 118, 3) := by decide +kernel
theorem dX7_passDay_114 : decode cX7_passDay 114 = .ok (.iload 4, 2) := by decide +kernel
theorem dX7_passDay_116 : decode cX7_passDay 116 = .ok (.aload_n 0, 1) := by decide +kernel
theorem dX7_passDay_117 : decode cX7_passDay 117 = .ok (.iload_n 1, 1) := by decide +kernel
theorem dX7_passDay_118 : decode cX7_passDay 118 = .ok (.invokevirtual 159, 3) := by decide +kernel
theorem dX7_passDay_121 : decode cX7_passDay 121 = .ok (.isub, 1) := by decide +kernel
theorem dX7_passDay_122 : decode cX7_passDay 122 = .ok (.istore 5, 2) := by decide +kernel
theorem dX7_passDay_124 : decode cX7_passDay 124 = .ok (.aload_n 0, 1) := by decide +kernel
theorem dX7_passDay_125 : decode cX7_passDay 125 = .ok (.getfield 13, 3) := by decide +kernel
theorem dX7_passDay_128 : decode cX7_passDay 128 = .ok (.iload_n 1, 1) := by decide +kernel
theorem dX7_passDay_129 : decode cX7_passDay 129 = .ok (.dup2, 1) := by decide +kernel
theorem dX7_passDay_130 : decode cX7_passDay 130 = .ok (.laload, 1) := by decide +kernel
theorem dX7_passDay_131 : decode cX7_passDay 131 = .ok (.iload 5, 2) := by decide +kernel
theorem dX7_passDay_133 : decode cX7_passDay 133 = .ok (.i2l, 1) := by decide +kernel
theorem dX7_passDay_134 : decode cX7_passDay 134 = .ok (.ladd, 1) := by decide +kernel
theorem dX7_passDay_135 : decode cX7_passDay 135 = .ok (.lastore, 1) := by decide +kernel
theorem dX7_passDay_136 : decode cX7_passDay 136 = .ok (.aload_n 0, 1) := by decide +kernel
theorem dX7_passDay_137 : decode cX7_passDay 137 = .ok (.getfield 7, 3) := by decide +kernel
theorem dX7_passDay_140 : decode cX7_passDay 140 = .ok (.bipush 20, 2) := by decide +kernel
theorem dX7_passDay_142 : decode cX7_passDay 142 = .ok (.iconst 2, 1) := by decide +kernel
theorem dX7_passDay_143 : decode cX7_passDay 143 = .ok (.iload_n 1, 1) := by decide +kernel
theorem dX7_passDay_144 : decode cX7_passDay 144 = .ok (.imul, 1) := by decide +kernel
theorem dX7_passDay_145 : decode cX7_passDay 145 = .ok (.iadd, 1) := by decide +kernel
theorem dX7_passDay_146 : decode cX7_passDay 146 = .ok (.dup2, 1) := by decide +kernel
theorem dX7_passDay_147 : decode cX7_passDay 147 = .ok (.iaload, 1) := by decide +kernel
theorem dX7_passDay_148 : decode cX7_passDay 148 = .ok (.iload 5, 2) := by decide +kernel
theorem dX7_passDay_150 : decode cX7_passDay 150 = .ok (.isub, 1) := by decide +kernel
theorem dX7_passDay_151 : decode cX7_passDay 151 = .ok (.iastore, 1) := by decide +kernel
theorem dX7_passDay_152 : decode cX7_passDay 152 = .ok (.aload_n 0, 1) := by decide +kernel
theorem dX7_passDay_153 : decode cX7_passDay 153 = .ok (.iload_n 1, 1) := by decide +kernel
theorem dX7_passDay_154 : decode cX7_passDay 154 = .ok (.invokevirtual 162, 3) := by decide +kernel
theorem dX7_passDay_157 : decode cX7_passDay 157 = .ok (.istore_n 3, 1) := by decide +kernel
theorem dX7_passDay_158 : decode cX7_passDay 158 = .ok (.goto (-107), 3) := by decide +kernel
theorem dX7_passDay_161 : decode cX7_passDay 161 = .ok (.iinc 1 1, 3) := by decide +kernel
theorem dX7_passDay_164 : decode cX7_passDay 164 = .ok (.goto (-162), 3) := by decide +kernel
theorem dX7_passDay_167 : decode cX7_passDay 167 = .ok (.aload_n 0, 1) := by decide +kernel
theorem dX7_passDay_168 : decode cX7_passDay 168 = .ok (.getfield 7, 3) := by decide +kernel
theorem dX7_passDay_171 : decode cX7_passDay 171 = .ok (.iconst 5, 1) := by decide +kernel
theorem dX7_passDay_172 : decode cX7_passDay 172 = .ok (.dup2, 1) := by decide +kernel
theorem dX7_passDay_173 : decode cX7_passDay 173 = .ok (.iaload, 1) := by decide +kernel
theorem dX7_passDay_174 : decode cX7_passDay 174 = .ok (.iconst 1, 1) := by decide +kernel
theorem dX7_passDay_175 : decode cX7_passDay 175 = .ok (.iadd, 1) := by decide +kernel
theorem dX7_passDay_176 : decode cX7_passDay 176 = .ok (.iastore, 1) := by decide +kernel
theorem dX7_passDay_177 : decode cX7_passDay 177 = .ok (.return_, 1) := by decide +kernel
theorem dX7_days_0 : decode cX7_days 0 = .ok (.iload_n 1, 1) := by decide +kernel
theorem dX7_days_1 : decode cX7_days 1 = .ok (.iconst 1, 1) := by decide +kernel
theorem dX7_days_2 : decode cX7_days 2 = .ok (.bipush 60, 2) := by decide +kernel
theorem dX7_days_4 : decode cX7_days 4 = .ok (.invokestatic 62, 3) := by decide +kernel
theorem dX7_days_7 : decode cX7_days 7 = .ok (.ifCond .ne 6, 3) := by decide +kernel
theorem dX7_days_10 : decode cX7_days 10 = .ok (.bipush (-2), 2) := by decide +kernel
theorem dX7_days_12 : decode cX7_days 12 = .ok (.ireturn, 1) := by decide +kernel
theorem dX7_days_13 : decode cX7_days 13 = .ok (.aload_n 0, 1) := by decide +kernel
theorem dX7_days_14 : decode cX7_days 14 = .ok (.invokevirtual 73, 3) := by decide +kernel
theorem dX7_days_17 : decode cX7_days 17 = .ok (.iconst 0, 1) := by decide +kernel
theorem dX7_days_18 : decode cX7_days 18 = .ok (.istore_n 2, 1) := by decide +kernel
theorem dX7_days_19 : decode cX7_days 19 = .ok (.iload_n 2, 1) := by decide +kernel
theorem dX7_days_20 : decode cX7_days 20 = .ok (.iload_n 1, 1) := by decide +kernel
theorem dX7_days_21 : decode cX7_days 21 = .ok (.if_icmp .ge 13, 3) := by decide +kernel
theorem dX7_days_24 : decode cX7_days 24 = .ok (.aload_n 0, 1) := by decide +kernel
theorem dX7_days_25 : decode cX7_days 25 = .ok (.invokevirtual 165, 3) := by decide +kernel
theorem dX7_days_28 : decode cX7_days 28 = .ok (.iinc 2 1, 3) := by decide +kernel
theorem dX7_days_31 : decode cX7_days 31 = .ok (.goto (-12), 3) := by decide +kernel
theorem dX7_days_34 : decode cX7_days 34 = .ok (.aload_n 0, 1) := by decide +kernel
theorem dX7_days_35 : decode cX7_days 35 = .ok (.getfield 7, 3) := by decide +kernel
theorem dX7_days_38 : decode cX7_days 38 = .ok (.iconst 5, 1) := by decide +kernel
theorem dX7_days_39 : decode cX7_days 39 = .ok (.iaload, 1) := by decide +kernel
theorem dX7_days_40 : decode cX7_days 40 = .ok (.ireturn, 1) := by decide +kernel
theorem dX7_pieceOf_0 : decode cX7_pieceOf 0 = .ok (.iconst 0, 1) := by decide +kernel
theorem dX7_pieceOf_1 : decode cX7_pieceOf 1 = .ok (.istore_n 2, 1) := by decide +kernel
theorem dX7_pieceOf_2 : decode cX7_pieceOf 2 = .ok (.iconst 0, 1) := by decide +kernel
theorem dX7_pieceOf_3 : decode cX7_pieceOf 3 = .ok (.istore_n 3, 1) := by decide +kernel
theorem dX7_pieceOf_4 : decode cX7_pieceOf 4 = .ok (.iload_n 3, 1) := by decide +kernel
theorem dX7_pieceOf_5 : decode cX7_pieceOf 5 = .ok (.aload_n 0, 1) := by decide +kernel
theorem dX7_pieceOf_6 : decode cX7_pieceOf 6 = .ok (.getfield 7, 3) := by decide +kernel
theorem dX7_pieceOf_9 : decode cX7_pieceOf 9 = .ok (.bipush 7, 2) := by decide +kernel
theorem dX7_pieceOf_11 : decode cX7_pieceOf 11 = .ok (.iaload, 1) := by decide +kernel
theorem dX7_pieceOf_12 : decode cX7_pieceOf 12 = .ok (.if_icmp .ge 27, 3) := by decide +kernel
theorem dX7_pieceOf_15 : decode cX7_pieceOf 15 = .ok (.aload_n 0, 1) := by decide +kernel
theorem dX7_pieceOf_16 : decode cX7_pieceOf 16 = .ok (.iload_n 3, 1) := by decide +kernel
theorem dX7_pieceOf_17 : decode cX7_pieceOf 17 = .ok (.invokevirtual 87, 3) := by decide +kernel
theorem dX7_pieceOf_20 : decode cX7_pieceOf 20 = .ok (.ifCond .lt 13, 3) := by decide +kernel
theorem dX7_pieceOf_23 : decode cX7_pieceOf 23 = .ok (.iload_n 2, 1) := by decide +kernel
theorem dX7_pieceOf_24 : decode cX7_pieceOf 24 = .ok (.iload_n 1, 1) := by decide +kernel
theorem dX7_pieceOf_25 : decode cX7_pieceOf 25 = .ok (.if_icmp .ne 5, 3) := by decide +kernel
theorem dX7_pieceOf_28 : decode cX7_pieceOf 28 = .ok (.iload_n 3, 1) := by decide +kernel
theorem dX7_pieceOf_29 : decode cX7_pieceOf 29 = .ok (.ireturn, 1) := by decide +kernel
theorem dX7_pieceOf_30 : decode cX7_pieceOf 30 = .ok (.iinc 2 1, 3) := by decide +kernel
theorem dX7_pieceOf_33 : decode cX7_pieceOf 33 = .ok (.iinc 3 1, 3) := by decide +kernel
theorem dX7_pieceOf_36 : decode cX7_pieceOf 36 = .ok (.goto (-32), 3) := by decide +kernel
theorem dX7_pieceOf_39 : decode cX7_pieceOf 39 = .ok (.bipush (-6), 2) := by decide +kernel
theorem dX7_pieceOf_41 : decode cX7_pieceOf 41 = .ok (.ireturn, 1) := by decide +kernel
theorem dX7_ofRange_0 : decode cX7_ofRange 0 = .ok (.aload_n 0, 1) := by decide +kernel
theorem dX7_ofRange_1 : decode cX7_ofRange 1 = .ok (.iload_n 1, 1) := by decide +kernel
theorem dX7_ofRange_2 : decode cX7_ofRange 2 = .ok (.invokevirtual 168, 3) := by decide +kernel
theorem dX7_ofRange_5 : decode cX7_ofRange 5 = .ok (.istore_n 3, 1) := by decide +kernel
theorem dX7_ofRange_6 : decode cX7_ofRange 6 = .ok (.iload_n 3, 1) := by decide +kernel
theorem dX7_ofRange_7 : decode cX7_ofRange 7 = .ok (.ifCond .ge 5, 3) := by decide +kernel
theorem dX7_ofRange_10 : decode cX7_ofRange 10 = .ok (.iconst (-1), 1) := by decide +kernel
theorem dX7_ofRange_11 : decode cX7_ofRange 11 = .ok (.ireturn, 1) := by decide +kernel
theorem dX7_ofRange_12 : decode cX7_ofRange 12 = .ok (.iload_n 2, 1) := by decide +kernel
theorem dX7_ofRange_13 : decode cX7_ofRange 13 = .ok (.ifCond .ne 11, 3) := by decide +kernel
theorem dX7_ofRange_16 : decode cX7_ofRange 16 = .ok (.aload_n 0, 1) := by decide +kernel
theorem dX7_ofRange_17 : decode cX7_ofRange 17 = .ok (.iload_n 3, 1) := by decide +kernel
theorem dX7_ofRange_18 : decode cX7_ofRange 18 = .ok (.invokevirtual 87, 3) := by decide +kernel
theorem dX7_ofRange_21 : decode cX7_ofRange 21 = .ok (.goto 31, 3) := by decide +kernel
theorem dX7_ofRange_24 : decode cX7_ofRange 24 = .ok (.iload_n 2, 1) := by decide +kernel
theorem dX7_ofRange_25 : decode cX7_ofRange 25 = .ok (.iconst 1, 1) := by decide +kernel
theorem dX7_ofRange_26 : decode cX7_ofRange 26 = .ok (.if_icmp .ne 11, 3) := by decide +kernel
theorem dX7_ofRange_29 : decode cX7_ofRange 29 = .ok (.aload_n 0, 1) := by decide +kernel
theorem dX7_ofRange_30 : decode cX7_ofRange 30 = .ok (.iload_n 3, 1) := by decide +kernel
theorem dX7_ofRange_31 : decode cX7_ofRange 31 = .ok (.invokevirtual 81, 3) := by decide +kernel
theorem dX7_ofRange_34 : decode cX7_ofRange 34 = .ok (.goto 18, 3) := by decide +kernel
theorem dX7_ofRange_37 : decode cX7_ofRange 37 = .ok (.iload_n 2, 1) := by decide +kernel
theorem dX7_ofRange_38 : decode cX7_ofRange 38 = .ok (.iconst 2, 1) := by decide +kernel
theorem dX7_ofRange_39 : decode cX7_ofRange 39 = .ok (.if_icmp .ne 11, 3) := by decide +kernel
theorem dX7_ofRange_42 : decode cX7_ofRange 42 = .ok (.aload_n 0, 1) := by decide +kernel
theorem dX7_ofRange_43 : decode cX7_ofRange 43 = .ok (.iload_n 3, 1) := by decide +kernel
theorem dX7_ofRange_44 : decode cX7_ofRange 44 = .ok (.invokevirtual 124, 3) := by decide +kernel
theorem dX7_ofRange_47 : decode cX7_ofRange 47 = .ok (.goto 5, 3) := by decide +kernel
theorem dX7_ofRange_50 : decode cX7_ofRange 50 = .ok (.bipush (-2), 2) := by decide +kernel
theorem dX7_ofRange_52 : decode cX7_ofRange 52 = .ok (.ireturn, 1) := by decide +kernel
theorem dX7_longestOf_0 : decode cX7_longestOf 0 = .ok (.iconst 0, 1) := by decide +kernel
theorem dX7_longestOf_1 : decode cX7_longestOf 1 = .ok (.istore_n 2, 1) := by decide +kernel
theorem dX7_longestOf_2 : decode cX7_longestOf 2 = .ok (.iconst 0, 1) := by decide +kernel
theorem dX7_longestOf_3 : decode cX7_longestOf 3 = .ok (.istore_n 3, 1) := by decide +kernel
theorem dX7_longestOf_4 : decode cX7_longestOf 4 = .ok (.iload_n 3, 1) := by decide +kernel
theorem dX7_longestOf_5 : decode cX7_longestOf 5 = .ok (.aload_n 0, 1) := by decide +kernel
theorem dX7_longestOf_6 : decode cX7_longestOf 6 = .ok (.getfield 7, 3) := by decide +kernel
theorem dX7_longestOf_9 : decode cX7_longestOf 9 = .ok (.bipush 7, 2) := by decide +kernel
theorem dX7_longestOf_11 : decode cX7_longestOf 11 = .ok (.iaload, 1) := by decide +kernel
theorem dX7_longestOf_12 : decode cX7_longestOf 12 = .ok (.if_icmp .ge 37, 3) := by decide +kernel
theorem dX7_longestOf_15 : decode cX7_longestOf 15 = .ok (.aload_n 0, 1) := by decide +kernel
theorem dX7_longestOf_16 : decode cX7_longestOf 16 = .ok (.iload_n 3, 1) := by decide +kernel
theorem dX7_longestOf_17 : decode cX7_longestOf 17 = .ok (.invokevirtual 87, 3) := by decide +kernel
theorem dX7_longestOf_20 : decode cX7_longestOf 20 = .ok (.iload_n 1, 1) := by decide +kernel
theorem dX7_longestOf_21 : decode cX7_longestOf 21 = .ok (.if_icmp .ne 20, 3) := by decide +kernel
theorem dX7_longestOf_24 : decode cX7_longestOf 24 = .ok (.aload_n 0, 1) := by decide +kernel
theorem dX7_longestOf_25 : decode cX7_longestOf 25 = .ok (.iload_n 3, 1) := by decide +kernel
theorem dX7_longestOf_26 : decode cX7_longestOf 26 = .ok (.invokevirtual 124, 3) := by decide +kernel
theorem dX7_longestOf_29 : decode cX7_longestOf 29 = .ok (.iload_n 2, 1) := by decide +kernel
theorem dX7_longestOf_30 : decode cX7_longestOf 30 = .ok (.if_icmp .le 11, 3) := by decide +kernel
theorem dX7_longestOf_33 : decode cX7_longestOf 33 = .ok (.aload_n 0, 1) := by decide +kernel
theorem dX7_longestOf_34 : decode cX7_longestOf 34 = .ok (.iload_n 3, 1) := by decide +kernel
theorem dX7_longestOf_35 : decode cX7_longestOf 35 = .ok (.invokevirtual 124, 3) := by decide +kernel
theorem dX7_longestOf_38 : decode cX7_longestOf 38 = .ok (.goto 4, 3) := by decide +kernel
theorem dX7_longestOf_41 : decode cX7_longestOf 41 = .ok (.iload_n 2, 1) := by decide +kernel
theorem dX7_longestOf_42 : decode cX7_longestOf 42 = .ok (.istore_n 2, 1) := by decide +kernel
theorem dX7_longestOf_43 : decode cX7_longestOf 43 = .ok (.iinc 3 1, 3) := by decide +kernel
theorem dX7_longestOf_46 : decode cX7_longestOf 46 = .ok (.goto (-42), 3) := by decide +kernel
theorem dX7_longestOf_49 : decode cX7_longestOf 49 = .ok (.iload_n 2, 1) := by decide +kernel
theorem dX7_longestOf_50 : decode cX7_longestOf 50 = .ok (.ireturn, 1) := by decide +kernel
theorem dX7_ofOwner_0 : decode cX7_ofOwner 0 = .ok (.aload_n 0, 1) := by decide +kernel
theorem dX7_ofOwner_1 : decode cX7_ofOwner 1 = .ok (.iload_n 1, 1) := by decide +kernel
theorem dX7_ofOwner_2 : decode cX7_ofOwner 2 = .ok (.invokevirtual 77, 3) := by decide +kernel
theorem dX7_ofOwner_5 : decode cX7_ofOwner 5 = .ok (.ifCond .ne 5, 3) := by decide +kernel
theorem dX7_ofOwner_8 : decode cX7_ofOwner 8 = .ok (.iconst (-1), 1) := by decide +kernel
theorem dX7_ofOwner_9 : decode cX7_ofOwner 9 = .ok (.ireturn, 1) := by decide +kernel
theorem dX7_ofOwner_10 : decode cX7_ofOwner 10 = .ok (.iload_n 2, 1) := by decide +kernel
