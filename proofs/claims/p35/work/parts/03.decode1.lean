theorem dX0_init_0 : decode cX0_init 0 = .ok (.aload_n 0, 1) := by decide +kernel
theorem dX0_init_1 : decode cX0_init 1 = .ok (.invokespecial 3, 3) := by decide +kernel
theorem dX0_init_4 : decode cX0_init 4 = .ok (.aload_n 0, 1) := by decide +kernel
theorem dX0_init_5 : decode cX0_init 5 = .ok (.new 9, 3) := by decide +kernel
theorem dX0_init_8 : decode cX0_init 8 = .ok (.dup, 1) := by decide +kernel
theorem dX0_init_9 : decode cX0_init 9 = .ok (.bipush 40, 2) := by decide +kernel
theorem dX0_init_11 : decode cX0_init 11 = .ok (.invokespecial 11, 3) := by decide +kernel
theorem dX0_init_14 : decode cX0_init 14 = .ok (.putfield 14, 3) := by decide +kernel
theorem dX0_init_17 : decode cX0_init 17 = .ok (.return_, 1) := by decide +kernel
theorem dX0_copy_0 : decode cX0_copy 0 = .ok (.aload_n 0, 1) := by decide +kernel
theorem dX0_copy_1 : decode cX0_copy 1 = .ok (.getfield 14, 3) := by decide +kernel
theorem dX0_copy_4 : decode cX0_copy 4 = .ok (.aload_n 1, 1) := by decide +kernel
theorem dX0_copy_5 : decode cX0_copy 5 = .ok (.getfield 14, 3) := by decide +kernel
theorem dX0_copy_8 : decode cX0_copy 8 = .ok (.invokevirtual 20, 3) := by decide +kernel
theorem dX0_copy_11 : decode cX0_copy 11 = .ok (.aload_n 0, 1) := by decide +kernel
theorem dX0_copy_12 : decode cX0_copy 12 = .ok (.aload_n 1, 1) := by decide +kernel
theorem dX0_copy_13 : decode cX0_copy 13 = .ok (.getfield 24, 3) := by decide +kernel
theorem dX0_copy_16 : decode cX0_copy 16 = .ok (.putfield 24, 3) := by decide +kernel
theorem dX0_copy_19 : decode cX0_copy 19 = .ok (.return_, 1) := by decide +kernel
theorem dX0_hasTransfer_0 : decode cX0_hasTransfer 0 = .ok (.iload_n 1, 1) := by decide +kernel
theorem dX0_hasTransfer_1 : decode cX0_hasTransfer 1 = .ok (.ifCond .lt 15, 3) := by decide +kernel
theorem dX0_hasTransfer_4 : decode cX0_hasTransfer 4 = .ok (.iload_n 1, 1) := by decide +kernel
theorem dX0_hasTransfer_5 : decode cX0_hasTransfer 5 = .ok (.aload_n 0, 1) := by decide +kernel
theorem dX0_hasTransfer_6 : decode cX0_hasTransfer 6 = .ok (.getfield 24, 3) := by decide +kernel
theorem dX0_hasTransfer_9 : decode cX0_hasTransfer 9 = .ok (.if_icmp .ge 7, 3) := by decide +kernel
theorem dX0_hasTransfer_12 : decode cX0_hasTransfer 12 = .ok (.iconst 1, 1) := by decide +kernel
theorem dX0_hasTransfer_13 : decode cX0_hasTransfer 13 = .ok (.goto 4, 3) := by decide +kernel
theorem dX0_hasTransfer_16 : decode cX0_hasTransfer 16 = .ok (.iconst 0, 1) := by decide +kernel
theorem dX0_hasTransfer_17 : decode cX0_hasTransfer 17 = .ok (.ireturn, 1) := by decide +kernel
theorem dX0_about_0 : decode cX0_about 0 = .ok (.aload_n 0, 1) := by decide +kernel
theorem dX0_about_1 : decode cX0_about 1 = .ok (.getfield 14, 3) := by decide +kernel
theorem dX0_about_4 : decode cX0_about 4 = .ok (.iload_n 1, 1) := by decide +kernel
theorem dX0_about_5 : decode cX0_about 5 = .ok (.iconst 5, 1) := by decide +kernel
theorem dX0_about_6 : decode cX0_about 6 = .ok (.imul, 1) := by decide +kernel
theorem dX0_about_7 : decode cX0_about 7 = .ok (.iload_n 2, 1) := by decide +kernel
theorem dX0_about_8 : decode cX0_about 8 = .ok (.iadd, 1) := by decide +kernel
theorem dX0_about_9 : decode cX0_about 9 = .ok (.invokevirtual 28, 3) := by decide +kernel
theorem dX0_about_12 : decode cX0_about 12 = .ok (.ireturn, 1) := by decide +kernel
theorem dX0_append_0 : decode cX0_append 0 = .ok (.aload_n 0, 1) := by decide +kernel
theorem dX0_append_1 : decode cX0_append 1 = .ok (.getfield 24, 3) := by decide +kernel
theorem dX0_append_4 : decode cX0_append 4 = .ok (.iconst 5, 1) := by decide +kernel
theorem dX0_append_5 : decode cX0_append 5 = .ok (.imul, 1) := by decide +kernel
theorem dX0_append_6 : decode cX0_append 6 = .ok (.istore 6, 2) := by decide +kernel
theorem dX0_append_8 : decode cX0_append 8 = .ok (.aload_n 0, 1) := by decide +kernel
theorem dX0_append_9 : decode cX0_append 9 = .ok (.getfield 14, 3) := by decide +kernel
theorem dX0_append_12 : decode cX0_append 12 = .ok (.iload 6, 2) := by decide +kernel
theorem dX0_append_14 : decode cX0_append 14 = .ok (.iconst 0, 1) := by decide +kernel
theorem dX0_append_15 : decode cX0_append 15 = .ok (.iadd, 1) := by decide +kernel
theorem dX0_append_16 : decode cX0_append 16 = .ok (.iload_n 1, 1) := by decide +kernel
theorem dX0_append_17 : decode cX0_append 17 = .ok (.invokevirtual 32, 3) := by decide +kernel
theorem dX0_append_20 : decode cX0_append 20 = .ok (.aload_n 0, 1) := by decide +kernel
theorem dX0_append_21 : decode cX0_append 21 = .ok (.getfield 14, 3) := by decide +kernel
theorem dX0_append_24 : decode cX0_append 24 = .ok (.iload 6, 2) := by decide +kernel
theorem dX0_append_26 : decode cX0_append 26 = .ok (.iconst 1, 1) := by decide +kernel
theorem dX0_append_27 : decode cX0_append 27 = .ok (.iadd, 1) := by decide +kernel
theorem dX0_append_28 : decode cX0_append 28 = .ok (.iload_n 2, 1) := by decide +kernel
theorem dX0_append_29 : decode cX0_append 29 = .ok (.invokevirtual 32, 3) := by decide +kernel
theorem dX0_append_32 : decode cX0_append 32 = .ok (.aload_n 0, 1) := by decide +kernel
theorem dX0_append_33 : decode cX0_append 33 = .ok (.getfield 14, 3) := by decide +kernel
theorem dX0_append_36 : decode cX0_append 36 = .ok (.iload 6, 2) := by decide +kernel
theorem dX0_append_38 : decode cX0_append 38 = .ok (.iconst 2, 1) := by decide +kernel
theorem dX0_append_39 : decode cX0_append 39 = .ok (.iadd, 1) := by decide +kernel
theorem dX0_append_40 : decode cX0_append 40 = .ok (.iload_n 3, 1) := by decide +kernel
theorem dX0_append_41 : decode cX0_append 41 = .ok (.invokevirtual 32, 3) := by decide +kernel
theorem dX0_append_44 : decode cX0_append 44 = .ok (.aload_n 0, 1) := by decide +kernel
theorem dX0_append_45 : decode cX0_append 45 = .ok (.getfield 14, 3) := by decide +kernel
theorem dX0_append_48 : decode cX0_append 48 = .ok (.iload 6, 2) := by decide +kernel
theorem dX0_append_50 : decode cX0_append 50 = .ok (.iconst 3, 1) := by decide +kernel
theorem dX0_append_51 : decode cX0_append 51 = .ok (.iadd, 1) := by decide +kernel
theorem dX0_append_52 : decode cX0_append 52 = .ok (.iload 4, 2) := by decide +kernel
theorem dX0_append_54 : decode cX0_append 54 = .ok (.invokevirtual 32, 3) := by decide +kernel
theorem dX0_append_57 : decode cX0_append 57 = .ok (.aload_n 0, 1) := by decide +kernel
theorem dX0_append_58 : decode cX0_append 58 = .ok (.getfield 14, 3) := by decide +kernel
theorem dX0_append_61 : decode cX0_append 61 = .ok (.iload 6, 2) := by decide +kernel
theorem dX0_append_63 : decode cX0_append 63 = .ok (.iconst 4, 1) := by decide +kernel
theorem dX0_append_64 : decode cX0_append 64 = .ok (.iadd, 1) := by decide +kernel
theorem dX0_append_65 : decode cX0_append 65 = .ok (.iload 5, 2) := by decide +kernel
theorem dX0_append_67 : decode cX0_append 67 = .ok (.invokevirtual 32, 3) := by decide +kernel
theorem dX0_append_70 : decode cX0_append 70 = .ok (.aload_n 0, 1) := by decide +kernel
theorem dX0_append_71 : decode cX0_append 71 = .ok (.dup, 1) := by decide +kernel
theorem dX0_append_72 : decode cX0_append 72 = .ok (.getfield 24, 3) := by decide +kernel
theorem dX0_append_75 : decode cX0_append 75 = .ok (.iconst 1, 1) := by decide +kernel
theorem dX0_append_76 : decode cX0_append 76 = .ok (.iadd, 1) := by decide +kernel
theorem dX0_append_77 : decode cX0_append 77 = .ok (.putfield 24, 3) := by decide +kernel
theorem dX0_append_80 : decode cX0_append 80 = .ok (.return_, 1) := by decide +kernel
theorem dX1_init_0 : decode cX1_init 0 = .ok (.aload_n 0, 1) := by decide +kernel
theorem dX1_init_1 : decode cX1_init 1 = .ok (.invokespecial 3, 3) := by decide +kernel
theorem dX1_init_4 : decode cX1_init 4 = .ok (.aload_n 0, 1) := by decide +kernel
theorem dX1_init_5 : decode cX1_init 5 = .ok (.bipush 7, 2) := by decide +kernel
theorem dX1_init_7 : decode cX1_init 7 = .ok (.anewarray 9, 3) := by decide +kernel
theorem dX1_init_10 : decode cX1_init 10 = .ok (.putfield 11, 3) := by decide +kernel
theorem dX1_init_13 : decode cX1_init 13 = .ok (.iconst 0, 1) := by decide +kernel
theorem dX1_init_14 : decode cX1_init 14 = .ok (.istore_n 1, 1) := by decide +kernel
theorem dX1_init_15 : decode cX1_init 15 = .ok (.iload_n 1, 1) := by decide +kernel
theorem dX1_init_16 : decode cX1_init 16 = .ok (.aload_n 0, 1) := by decide +kernel
theorem dX1_init_17 : decode cX1_init 17 = .ok (.getfield 11, 3) := by decide +kernel
theorem dX1_init_20 : decode cX1_init 20 = .ok (.arraylength, 1) := by decide +kernel
theorem dX1_init_21 : decode cX1_init 21 = .ok (.if_icmp .ge 22, 3) := by decide +kernel
theorem dX1_init_24 : decode cX1_init 24 = .ok (.aload_n 0, 1) := by decide +kernel
theorem dX1_init_25 : decode cX1_init 25 = .ok (.getfield 11, 3) := by decide +kernel
theorem dX1_init_28 : decode cX1_init 28 = .ok (.iload_n 1, 1) := by decide +kernel
theorem dX1_init_29 : decode cX1_init 29 = .ok (.new 9, 3) := by decide +kernel
theorem dX1_init_32 : decode cX1_init 32 = .ok (.dup, 1) := by decide +kernel
theorem dX1_init_33 : decode cX1_init 33 = .ok (.invokespecial 17, 3) := by decide +kernel
theorem dX1_init_36 : decode cX1_init 36 = .ok (.aastore, 1) := by decide +kernel
theorem dX1_init_37 : decode cX1_init 37 = .ok (.iinc 1 1, 3) := by decide +kernel
theorem dX1_init_40 : decode cX1_init 40 = .ok (.goto (-25), 3) := by decide +kernel
theorem dX1_init_43 : decode cX1_init 43 = .ok (.return_, 1) := by decide +kernel
theorem dX1_prepare_0 : decode cX1_prepare 0 = .ok (.aload_n 0, 1) := by decide +kernel
theorem dX1_prepare_1 : decode cX1_prepare 1 = .ok (.getfield 18, 3) := by decide +kernel
theorem dX1_prepare_4 : decode cX1_prepare 4 = .ok (.ifCond .lt 27, 3) := by decide +kernel
theorem dX1_prepare_7 : decode cX1_prepare 7 = .ok (.aload_n 0, 1) := by decide +kernel
theorem dX1_prepare_8 : decode cX1_prepare 8 = .ok (.getfield 18, 3) := by decide +kernel
theorem dX1_prepare_11 : decode cX1_prepare 11 = .ok (.aload_n 0, 1) := by decide +kernel
theorem dX1_prepare_12 : decode cX1_prepare 12 = .ok (.getfield 11, 3) := by decide +kernel
theorem dX1_prepare_15 : decode cX1_prepare 15 = .ok (.arraylength, 1) := by decide +kernel
theorem dX1_prepare_16 : decode cX1_prepare 16 = .ok (.if_icmp .ge 15, 3) := by decide +kernel
theorem dX1_prepare_19 : decode cX1_prepare 19 = .ok (.aload_n 0, 1) := by decide +kernel
theorem dX1_prepare_20 : decode cX1_prepare 20 = .ok (.getfield 11, 3) := by decide +kernel
theorem dX1_prepare_23 : decode cX1_prepare 23 = .ok (.aload_n 0, 1) := by decide +kernel
theorem dX1_prepare_24 : decode cX1_prepare 24 = .ok (.getfield 18, 3) := by decide +kernel
theorem dX1_prepare_27 : decode cX1_prepare 27 = .ok (.aaload, 1) := by decide +kernel
theorem dX1_prepare_28 : decode cX1_prepare 28 = .ok (.goto 4, 3) := by decide +kernel
theorem dX1_prepare_31 : decode cX1_prepare 31 = .ok (.aconst_null, 1) := by decide +kernel
theorem dX1_prepare_32 : decode cX1_prepare 32 = .ok (.astore_n 2, 1) := by decide +kernel
theorem dX1_prepare_33 : decode cX1_prepare 33 = .ok (.aload_n 2, 1) := by decide +kernel
theorem dX1_prepare_34 : decode cX1_prepare 34 = .ok (.ifnull 8, 3) := by decide +kernel
theorem dX1_prepare_37 : decode cX1_prepare 37 = .ok (.aload_n 2, 1) := by decide +kernel
theorem dX1_prepare_38 : decode cX1_prepare 38 = .ok (.aload_n 1, 1) := by decide +kernel
theorem dX1_prepare_39 : decode cX1_prepare 39 = .ok (.invokevirtual 22, 3) := by decide +kernel
theorem dX1_prepare_42 : decode cX1_prepare 42 = .ok (.return_, 1) := by decide +kernel
theorem dX1_finish_0 : decode cX1_finish 0 = .ok (.iload_n 1, 1) := by decide +kernel
theorem dX1_finish_1 : decode cX1_finish 1 = .ok (.ifCond .ge 5, 3) := by decide +kernel
theorem dX1_finish_4 : decode cX1_finish 4 = .ok (.iload_n 1, 1) := by decide +kernel
theorem dX1_finish_5 : decode cX1_finish 5 = .ok (.ireturn, 1) := by decide +kernel
theorem dX1_finish_6 : decode cX1_finish 6 = .ok (.aload_n 0, 1) := by decide +kernel
theorem dX1_finish_7 : decode cX1_finish 7 = .ok (.getfield 18, 3) := by decide +kernel
theorem dX1_finish_10 : decode cX1_finish 10 = .ok (.bipush 6, 2) := by decide +kernel
theorem dX1_finish_12 : decode cX1_finish 12 = .ok (.if_icmp .ge 16, 3) := by decide +kernel
theorem dX1_finish_15 : decode cX1_finish 15 = .ok (.aload_n 0, 1) := by decide +kernel
theorem dX1_finish_16 : decode cX1_finish 16 = .ok (.dup, 1) := by decide +kernel
theorem dX1_finish_17 : decode cX1_finish 17 = .ok (.getfield 18, 3) := by decide +kernel
theorem dX1_finish_20 : decode cX1_finish 20 = .ok (.iconst 1, 1) := by decide +kernel
theorem dX1_finish_21 : decode cX1_finish 21 = .ok (.iadd, 1) := by decide +kernel
theorem dX1_finish_22 : decode cX1_finish 22 = .ok (.putfield 18, 3) := by decide +kernel
theorem dX1_finish_25 : decode cX1_finish 25 = .ok (.goto 7, 3) := by decide +kernel
theorem dX1_finish_28 : decode cX1_finish 28 = .ok (.aload_n 0, 1) := by decide +kernel
theorem dX1_finish_29 : decode cX1_finish 29 = .ok (.invokevirtual 26, 3) := by decide +kernel
theorem dX1_finish_32 : decode cX1_finish 32 = .ok (.iload_n 1, 1) := by decide +kernel
theorem dX1_finish_33 : decode cX1_finish 33 = .ok (.ireturn, 1) := by decide +kernel
theorem dX1_dropOldest_0 : decode cX1_dropOldest 0 = .ok (.aload_n 0, 1) := by decide +kernel
theorem dX1_dropOldest_1 : decode cX1_dropOldest 1 = .ok (.getfield 11, 3) := by decide +kernel
theorem dX1_dropOldest_4 : decode cX1_dropOldest 4 = .ok (.iconst 0, 1) := by decide +kernel
theorem dX1_dropOldest_5 : decode cX1_dropOldest 5 = .ok (.aaload, 1) := by decide +kernel
theorem dX1_dropOldest_6 : decode cX1_dropOldest 6 = .ok (.astore_n 1, 1) := by decide +kernel
theorem dX1_dropOldest_7 : decode cX1_dropOldest 7 = .ok (.iconst 1, 1) := by decide +kernel
theorem dX1_dropOldest_8 : decode cX1_dropOldest 8 = .ok (.istore_n 2, 1) := by decide +kernel
theorem dX1_dropOldest_9 : decode cX1_dropOldest 9 = .ok (.iload_n 2, 1) := by decide +kernel
theorem dX1_dropOldest_10 : decode cX1_dropOldest 10 = .ok (.aload_n 0, 1) := by decide +kernel
theorem dX1_dropOldest_11 : decode cX1_dropOldest 11 = .ok (.getfield 11, 3) := by decide +kernel
theorem dX1_dropOldest_14 : decode cX1_dropOldest 14 = .ok (.arraylength, 1) := by decide +kernel
theorem dX1_dropOldest_15 : decode cX1_dropOldest 15 = .ok (.if_icmp .ge 23, 3) := by decide +kernel
theorem dX1_dropOldest_18 : decode cX1_dropOldest 18 = .ok (.aload_n 0, 1) := by decide +kernel
theorem dX1_dropOldest_19 : decode cX1_dropOldest 19 = .ok (.getfield 11, 3) := by decide +kernel
theorem dX1_dropOldest_22 : decode cX1_dropOldest 22 = .ok (.iload_n 2, 1) := by decide +kernel
theorem dX1_dropOldest_23 : decode cX1_dropOldest 23 = .ok (.iconst 1, 1) := by decide +kernel
theorem dX1_dropOldest_24 : decode cX1_dropOldest 24 = .ok (.isub, 1) := by decide +kernel
theorem dX1_dropOldest_25 : decode cX1_dropOldest 25 = .ok (.aload_n 0, 1) := by decide +kernel
theorem dX1_dropOldest_26 : decode cX1_dropOldest 26 = .ok (.getfield 11, 3) := by decide +kernel
theorem dX1_dropOldest_29 : decode cX1_dropOldest 29 = .ok (.iload_n 2, 1) := by decide +kernel
theorem dX1_dropOldest_30 : decode cX1_dropOldest 30 = .ok (.aaload, 1) := by decide +kernel
theorem dX1_dropOldest_31 : decode cX1_dropOldest 31 = .ok (.aastore, 1) := by decide +kernel
theorem dX1_dropOldest_32 : decode cX1_dropOldest 32 = .ok (.iinc 2 1, 3) := by decide +kernel
theorem dX1_dropOldest_35 : decode cX1_dropOldest 35 = .ok (.goto (-26), 3) := by decide +kernel
theorem dX1_dropOldest_38 : decode cX1_dropOldest 38 = .ok (.aload_n 0, 1) := by decide +kernel
theorem dX1_dropOldest_39 : decode cX1_dropOldest 39 = .ok (.getfield 11, 3) := by decide +kernel
theorem dX1_dropOldest_42 : decode cX1_dropOldest 42 = .ok (.bipush 6, 2) := by decide +kernel
theorem dX1_dropOldest_44 : decode cX1_dropOldest 44 = .ok (.aload_n 1, 1) := by decide +kernel
theorem dX1_dropOldest_45 : decode cX1_dropOldest 45 = .ok (.aastore, 1) := by decide +kernel
theorem dX1_dropOldest_46 : decode cX1_dropOldest 46 = .ok (.return_, 1) := by decide +kernel
theorem dX2_init_0 : decode cX2_init 0 = .ok (.aload_n 0, 1) := by decide +kernel
theorem dX2_init_1 : decode cX2_init 1 = .ok (.invokespecial 3, 3) := by decide +kernel
theorem dX2_init_4 : decode cX2_init 4 = .ok (.aload_n 0, 1) := by decide +kernel
theorem dX2_init_5 : decode cX2_init 5 = .ok (.bipush 80, 2) := by decide +kernel
theorem dX2_init_7 : decode cX2_init 7 = .ok (.newarray .char, 2) := by decide +kernel
theorem dX2_init_9 : decode cX2_init 9 = .ok (.putfield 9, 3) := by decide +kernel
theorem dX2_init_12 : decode cX2_init 12 = .ok (.return_, 1) := by decide +kernel
theorem dX3_init_0 : decode cX3_init 0 = .ok (.aload_n 0, 1) := by decide +kernel
theorem dX3_init_1 : decode cX3_init 1 = .ok (.invokespecial 3, 3) := by decide +kernel
theorem dX3_init_4 : decode cX3_init 4 = .ok (.aload_n 0, 1) := by decide +kernel
theorem dX3_init_5 : decode cX3_init 5 = .ok (.new 9, 3) := by decide +kernel
theorem dX3_init_8 : decode cX3_init 8 = .ok (.dup, 1) := by decide +kernel
theorem dX3_init_9 : decode cX3_init 9 = .ok (.invokespecial 11, 3) := by decide +kernel
theorem dX3_init_12 : decode cX3_init 12 = .ok (.putfield 12, 3) := by decide +kernel
theorem dX3_init_15 : decode cX3_init 15 = .ok (.aload_n 0, 1) := by decide +kernel
theorem dX3_init_16 : decode cX3_init 16 = .ok (.new 18, 3) := by decide +kernel
theorem dX3_init_19 : decode cX3_init 19 = .ok (.dup, 1) := by decide +kernel
theorem dX3_init_20 : decode cX3_init 20 = .ok (.invokespecial 20, 3) := by decide +kernel
theorem dX3_init_23 : decode cX3_init 23 = .ok (.putfield 21, 3) := by decide +kernel
theorem dX3_init_26 : decode cX3_init 26 = .ok (.aload_n 0, 1) := by decide +kernel
theorem dX3_init_27 : decode cX3_init 27 = .ok (.new 25, 3) := by decide +kernel
theorem dX3_init_30 : decode cX3_init 30 = .ok (.dup, 1) := by decide +kernel
theorem dX3_init_31 : decode cX3_init 31 = .ok (.iconst 5, 1) := by decide +kernel
theorem dX3_init_32 : decode cX3_init 32 = .ok (.invokespecial 27, 3) := by decide +kernel
theorem dX3_init_35 : decode cX3_init 35 = .ok (.putfield 30, 3) := by decide +kernel
theorem dX3_init_38 : decode cX3_init 38 = .ok (.aload_n 0, 1) := by decide +kernel
theorem dX3_init_39 : decode cX3_init 39 = .ok (.bipush 10, 2) := by decide +kernel
theorem dX3_init_41 : decode cX3_init 41 = .ok (.newarray .long, 2) := by decide +kernel
theorem dX3_init_43 : decode cX3_init 43 = .ok (.putfield 34, 3) := by decide +kernel
theorem dX3_init_46 : decode cX3_init 46 = .ok (.aload_n 0, 1) := by decide +kernel
theorem dX3_init_47 : decode cX3_init 47 = .ok (.new 25, 3) := by decide +kernel
theorem dX3_init_50 : decode cX3_init 50 = .ok (.dup, 1) := by decide +kernel
theorem dX3_init_51 : decode cX3_init 51 = .ok (.bipush 10, 2) := by decide +kernel
theorem dX3_init_53 : decode cX3_init 53 = .ok (.invokespecial 27, 3) := by decide +kernel
theorem dX3_init_56 : decode cX3_init 56 = .ok (.putfield 38, 3) := by decide +kernel
theorem dX3_init_59 : decode cX3_init 59 = .ok (.aload_n 0, 1) := by decide +kernel
theorem dX3_init_60 : decode cX3_init 60 = .ok (.new 25, 3) := by decide +kernel
theorem dX3_init_63 : decode cX3_init 63 = .ok (.dup, 1) := by decide +kernel
theorem dX3_init_64 : decode cX3_init 64 = .ok (.bipush 10, 2) := by decide +kernel
theorem dX3_init_66 : decode cX3_init 66 = .ok (.invokespecial 27, 3) := by decide +kernel
theorem dX3_init_69 : decode cX3_init 69 = .ok (.putfield 41, 3) := by decide +kernel
theorem dX3_init_72 : decode cX3_init 72 = .ok (.iconst 0, 1) := by decide +kernel
theorem dX3_init_73 : decode cX3_init 73 = .ok (.istore_n 1, 1) := by decide +kernel
theorem dX3_init_74 : decode cX3_init 74 = .ok (.iload_n 1, 1) := by decide +kernel
theorem dX3_init_75 : decode cX3_init 75 = .ok (.getstatic 44, 3) := by decide +kernel
theorem dX3_init_78 : decode cX3_init 78 = .ok (.arraylength, 1) := by decide +kernel
theorem dX3_init_79 : decode cX3_init 79 = .ok (.if_icmp .ge 22, 3) := by decide +kernel
theorem dX3_init_82 : decode cX3_init 82 = .ok (.aload_n 0, 1) := by decide +kernel
theorem dX3_init_83 : decode cX3_init 83 = .ok (.getfield 30, 3) := by decide +kernel
theorem dX3_init_86 : decode cX3_init 86 = .ok (.iload_n 1, 1) := by decide +kernel
theorem dX3_init_87 : decode cX3_init 87 = .ok (.getstatic 44, 3) := by decide +kernel
theorem dX3_init_90 : decode cX3_init 90 = .ok (.iload_n 1, 1) := by decide +kernel
theorem dX3_init_91 : decode cX3_init 91 = .ok (.iaload, 1) := by decide +kernel
theorem dX3_init_92 : decode cX3_init 92 = .ok (.invokevirtual 48, 3) := by decide +kernel
theorem dX3_init_95 : decode cX3_init 95 = .ok (.iinc 1 1, 3) := by decide +kernel
theorem dX3_init_98 : decode cX3_init 98 = .ok (.goto (-24), 3) := by decide +kernel
theorem dX3_init_101 : decode cX3_init 101 = .ok (.return_, 1) := by decide +kernel
theorem dX3_copy_0 : decode cX3_copy 0 = .ok (.aload_n 0, 1) := by decide +kernel
theorem dX3_copy_1 : decode cX3_copy 1 = .ok (.getfield 12, 3) := by decide +kernel
theorem dX3_copy_4 : decode cX3_copy 4 = .ok (.aload_n 1, 1) := by decide +kernel
theorem dX3_copy_5 : decode cX3_copy 5 = .ok (.getfield 12, 3) := by decide +kernel
theorem dX3_copy_8 : decode cX3_copy 8 = .ok (.invokevirtual 52, 3) := by decide +kernel
theorem dX3_copy_11 : decode cX3_copy 11 = .ok (.aload_n 0, 1) := by decide +kernel
theorem dX3_copy_12 : decode cX3_copy 12 = .ok (.getfield 21, 3) := by decide +kernel
theorem dX3_copy_15 : decode cX3_copy 15 = .ok (.aload_n 1, 1) := by decide +kernel
theorem dX3_copy_16 : decode cX3_copy 16 = .ok (.getfield 21, 3) := by decide +kernel
theorem dX3_copy_19 : decode cX3_copy 19 = .ok (.invokevirtual 56, 3) := by decide +kernel
theorem dX3_copy_22 : decode cX3_copy 22 = .ok (.aload_n 0, 1) := by decide +kernel
theorem dX3_copy_23 : decode cX3_copy 23 = .ok (.getfield 30, 3) := by decide +kernel
theorem dX3_copy_26 : decode cX3_copy 26 = .ok (.aload_n 1, 1) := by decide +kernel
theorem dX3_copy_27 : decode cX3_copy 27 = .ok (.getfield 30, 3) := by decide +kernel
theorem dX3_copy_30 : decode cX3_copy 30 = .ok (.invokevirtual 59, 3) := by decide +kernel
theorem dX3_copy_33 : decode cX3_copy 33 = .ok (.aload_n 1, 1) := by decide +kernel
theorem dX3_copy_34 : decode cX3_copy 34 = .ok (.getfield 34, 3) := by decide +kernel
theorem dX3_copy_37 : decode cX3_copy 37 = .ok (.iconst 0, 1) := by decide +kernel
theorem dX3_copy_38 : decode cX3_copy 38 = .ok (.aload_n 0, 1) := by decide +kernel
theorem dX3_copy_39 : decode cX3_copy 39 = .ok (.getfield 34, 3) := by decide +kernel
theorem dX3_copy_42 : decode cX3_copy 42 = .ok (.iconst 0, 1) := by decide +kernel
theorem dX3_copy_43 : decode cX3_copy 43 = .ok (.aload_n 0, 1) := by decide +kernel
theorem dX3_copy_44 : decode cX3_copy 44 = .ok (.getfield 34, 3) := by decide +kernel
theorem dX3_copy_47 : decode cX3_copy 47 = .ok (.arraylength, 1) := by decide +kernel
theorem dX3_copy_48 : decode cX3_copy 48 = .ok (.aload_n 1, 1) := by decide +kernel
theorem dX3_copy_49 : decode cX3_copy 49 = .ok (.getfield 34, 3) := by decide +kernel
theorem dX3_copy_52 : decode cX3_copy 52 = .ok (.arraylength, 1) := by decide +kernel
theorem dX3_copy_53 : decode cX3_copy 53 = .ok (.invokestatic 62, 3) := by decide +kernel
theorem dX3_copy_56 : decode cX3_copy 56 = .ok (.invokestatic 68, 3) := by decide +kernel
theorem dX3_copy_59 : decode cX3_copy 59 = .ok (.aload_n 0, 1) := by decide +kernel
theorem dX3_copy_60 : decode cX3_copy 60 = .ok (.getfield 38, 3) := by decide +kernel
theorem dX3_copy_63 : decode cX3_copy 63 = .ok (.aload_n 1, 1) := by decide +kernel
theorem dX3_copy_64 : decode cX3_copy 64 = .ok (.getfield 38, 3) := by decide +kernel
theorem dX3_copy_67 : decode cX3_copy 67 = .ok (.invokevirtual 59, 3) := by decide +kernel
theorem dX3_copy_70 : decode cX3_copy 70 = .ok (.aload_n 0, 1) := by decide +kernel
theorem dX3_copy_71 : decode cX3_copy 71 = .ok (.getfield 41, 3) := by decide +kernel
theorem dX3_copy_74 : decode cX3_copy 74 = .ok (.aload_n 1, 1) := by decide +kernel
theorem dX3_copy_75 : decode cX3_copy 75 = .ok (.getfield 41, 3) := by decide +kernel
theorem dX3_copy_78 : decode cX3_copy 78 = .ok (.invokevirtual 59, 3) := by decide +kernel
theorem dX3_copy_81 : decode cX3_copy 81 = .ok (.aload_n 0, 1) := by decide +kernel
theorem dX3_copy_82 : decode cX3_copy 82 = .ok (.aload_n 1, 1) := by decide +kernel
theorem dX3_copy_83 : decode cX3_copy 83 = .ok (.getfield 74, 3) := by decide +kernel
theorem dX3_copy_86 : decode cX3_copy 86 = .ok (.putfield 74, 3) := by decide +kernel
theorem dX3_copy_89 : decode cX3_copy 89 = .ok (.aload_n 0, 1) := by decide +kernel
theorem dX3_copy_90 : decode cX3_copy 90 = .ok (.aload_n 1, 1) := by decide +kernel
theorem dX3_copy_91 : decode cX3_copy 91 = .ok (.getfield 78, 3) := by decide +kernel
theorem dX3_copy_94 : decode cX3_copy 94 = .ok (.putfield 78, 3) := by decide +kernel
theorem dX3_copy_97 : decode cX3_copy 97 = .ok (.aload_n 0, 1) := by decide +kernel
theorem dX3_copy_98 : decode cX3_copy 98 = .ok (.aload_n 1, 1) := by decide +kernel
theorem dX3_copy_99 : decode cX3_copy 99 = .ok (.getfield 81, 3) := by decide +kernel
theorem dX3_copy_102 : decode cX3_copy 102 = .ok (.putfield 81, 3) := by decide +kernel
theorem dX3_copy_105 : decode cX3_copy 105 = .ok (.aload_n 0, 1) := by decide +kernel
theorem dX3_copy_106 : decode cX3_copy 106 = .ok (.aload_n 1, 1) := by decide +kernel
theorem dX3_copy_107 : decode cX3_copy 107 = .ok (.getfield 84, 3) := by decide +kernel
theorem dX3_copy_110 : decode cX3_copy 110 = .ok (.putfield 84, 3) := by decide +kernel
theorem dX3_copy_113 : decode cX3_copy 113 = .ok (.return_, 1) := by decide +kernel
theorem dX3_hasOwner_0 : decode cX3_hasOwner 0 = .ok (.iload_n 1, 1) := by decide +kernel
theorem dX3_hasOwner_1 : decode cX3_hasOwner 1 = .ok (.ifCond .lt 15, 3) := by decide +kernel
theorem dX3_hasOwner_4 : decode cX3_hasOwner 4 = .ok (.iload_n 1, 1) := by decide +kernel
theorem dX3_hasOwner_5 : decode cX3_hasOwner 5 = .ok (.aload_n 0, 1) := by decide +kernel
theorem dX3_hasOwner_6 : decode cX3_hasOwner 6 = .ok (.getfield 74, 3) := by decide +kernel
theorem dX3_hasOwner_9 : decode cX3_hasOwner 9 = .ok (.if_icmp .ge 7, 3) := by decide +kernel
theorem dX3_hasOwner_12 : decode cX3_hasOwner 12 = .ok (.iconst 1, 1) := by decide +kernel
theorem dX3_hasOwner_13 : decode cX3_hasOwner 13 = .ok (.goto 4, 3) := by decide +kernel
theorem dX3_hasOwner_16 : decode cX3_hasOwner 16 = .ok (.iconst 0, 1) := by decide +kernel
theorem dX3_hasOwner_17 : decode cX3_hasOwner 17 = .ok (.ireturn, 1) := by decide +kernel
theorem dX3_purseOf_0 : decode cX3_purseOf 0 = .ok (.iload_n 1, 1) := by decide +kernel
theorem dX3_purseOf_1 : decode cX3_purseOf 1 = .ok (.ifCond .lt 21, 3) := by decide +kernel
theorem dX3_purseOf_4 : decode cX3_purseOf 4 = .ok (.iload_n 1, 1) := by decide +kernel
theorem dX3_purseOf_5 : decode cX3_purseOf 5 = .ok (.aload_n 0, 1) := by decide +kernel
theorem dX3_purseOf_6 : decode cX3_purseOf 6 = .ok (.getfield 34, 3) := by decide +kernel
theorem dX3_purseOf_9 : decode cX3_purseOf 9 = .ok (.arraylength, 1) := by decide +kernel
theorem dX3_purseOf_10 : decode cX3_purseOf 10 = .ok (.if_icmp .ge 12, 3) := by decide +kernel
theorem dX3_purseOf_13 : decode cX3_purseOf 13 = .ok (.aload_n 0, 1) := by decide +kernel
theorem dX3_purseOf_14 : decode cX3_purseOf 14 = .ok (.getfield 34, 3) := by decide +kernel
theorem dX3_purseOf_17 : decode cX3_purseOf 17 = .ok (.iload_n 1, 1) := by decide +kernel
theorem dX3_purseOf_18 : decode cX3_purseOf 18 = .ok (.laload, 1) := by decide +kernel
theorem dX3_purseOf_19 : decode cX3_purseOf 19 = .ok (.goto 4, 3) := by decide +kernel
theorem dX3_purseOf_22 : decode cX3_purseOf 22 = .ok (.lconst 0, 1) := by decide +kernel
theorem dX3_purseOf_23 : decode cX3_purseOf 23 = .ok (.lreturn, 1) := by decide +kernel
theorem dX3_earn_0 : decode cX3_earn 0 = .ok (.iload_n 1, 1) := by decide +kernel
theorem dX3_earn_1 : decode cX3_earn 1 = .ok (.ifCond .lt 22, 3) := by decide +kernel
theorem dX3_earn_4 : decode cX3_earn 4 = .ok (.iload_n 1, 1) := by decide +kernel
theorem dX3_earn_5 : decode cX3_earn 5 = .ok (.aload_n 0, 1) := by decide +kernel
theorem dX3_earn_6 : decode cX3_earn 6 = .ok (.getfield 34, 3) := by decide +kernel
theorem dX3_earn_9 : decode cX3_earn 9 = .ok (.arraylength, 1) := by decide +kernel
theorem dX3_earn_10 : decode cX3_earn 10 = .ok (.if_icmp .ge 13, 3) := by decide +kernel
theorem dX3_earn_13 : decode cX3_earn 13 = .ok (.aload_n 0, 1) := by decide +kernel
theorem dX3_earn_14 : decode cX3_earn 14 = .ok (.getfield 34, 3) := by decide +kernel
theorem dX3_earn_17 : decode cX3_earn 17 = .ok (.iload_n 1, 1) := by decide +kernel
theorem dX3_earn_18 : decode cX3_earn 18 = .ok (.dup2, 1) := by decide +kernel
theorem dX3_earn_19 : decode cX3_earn 19 = .ok (.laload, 1) := by decide +kernel
theorem dX3_earn_20 : decode cX3_earn 20 = .ok (.lload_n 2, 1) := by decide +kernel
theorem dX3_earn_21 : decode cX3_earn 21 = .ok (.ladd, 1) := by decide +kernel
theorem dX3_earn_22 : decode cX3_earn 22 = .ok (.lastore, 1) := by decide +kernel
theorem dX3_earn_23 : decode cX3_earn 23 = .ok (.return_, 1) := by decide +kernel
theorem dX3_mayGet_0 : decode cX3_mayGet 0 = .ok (.iload_n 2, 1) := by decide +kernel
theorem dX3_mayGet_1 : decode cX3_mayGet 1 = .ok (.ifCond .eq 27, 3) := by decide +kernel
theorem dX3_mayGet_4 : decode cX3_mayGet 4 = .ok (.aload_n 0, 1) := by decide +kernel
theorem dX3_mayGet_5 : decode cX3_mayGet 5 = .ok (.getfield 12, 3) := by decide +kernel
theorem dX3_mayGet_8 : decode cX3_mayGet 8 = .ok (.getfield 87, 3) := by decide +kernel
theorem dX3_mayGet_11 : decode cX3_mayGet 11 = .ok (.iload_n 1, 1) := by decide +kernel
theorem dX3_mayGet_12 : decode cX3_mayGet 12 = .ok (.invokevirtual 90, 3) := by decide +kernel
theorem dX3_mayGet_15 : decode cX3_mayGet 15 = .ok (.iload_n 2, 1) := by decide +kernel
theorem dX3_mayGet_16 : decode cX3_mayGet 16 = .ok (.iadd, 1) := by decide +kernel
theorem dX3_mayGet_17 : decode cX3_mayGet 17 = .ok (.aload_n 0, 1) := by decide +kernel
theorem dX3_mayGet_18 : decode cX3_mayGet 18 = .ok (.getfield 30, 3) := by decide +kernel
theorem dX3_mayGet_21 : decode cX3_mayGet 21 = .ok (.iconst 4, 1) := by decide +kernel
theorem dX3_mayGet_22 : decode cX3_mayGet 22 = .ok (.invokevirtual 90, 3) := by decide +kernel
theorem dX3_mayGet_25 : decode cX3_mayGet 25 = .ok (.if_icmp .gt 7, 3) := by decide +kernel
theorem dX3_mayGet_28 : decode cX3_mayGet 28 = .ok (.iconst 1, 1) := by decide +kernel
theorem dX3_mayGet_29 : decode cX3_mayGet 29 = .ok (.goto 4, 3) := by decide +kernel
theorem dX3_mayGet_32 : decode cX3_mayGet 32 = .ok (.iconst 0, 1) := by decide +kernel
theorem dX3_mayGet_33 : decode cX3_mayGet 33 = .ok (.ireturn, 1) := by decide +kernel
theorem dX3_taxOf_0 : decode cX3_taxOf 0 = .ok (.aload_n 0, 1) := by decide +kernel
theorem dX3_taxOf_1 : decode cX3_taxOf 1 = .ok (.getfield 12, 3) := by decide +kernel
theorem dX3_taxOf_4 : decode cX3_taxOf 4 = .ok (.getfield 87, 3) := by decide +kernel
theorem dX3_taxOf_7 : decode cX3_taxOf 7 = .ok (.iload_n 1, 1) := by decide +kernel
theorem dX3_taxOf_8 : decode cX3_taxOf 8 = .ok (.invokevirtual 90, 3) := by decide +kernel
theorem dX3_taxOf_11 : decode cX3_taxOf 11 = .ok (.bipush 9, 2) := by decide +kernel
theorem dX3_taxOf_13 : decode cX3_taxOf 13 = .ok (.iadd, 1) := by decide +kernel
theorem dX3_taxOf_14 : decode cX3_taxOf 14 = .ok (.bipush 10, 2) := by decide +kernel
theorem dX3_taxOf_16 : decode cX3_taxOf 16 = .ok (.idiv, 1) := by decide +kernel
theorem dX3_taxOf_17 : decode cX3_taxOf 17 = .ok (.istore_n 2, 1) := by decide +kernel
theorem dX3_taxOf_18 : decode cX3_taxOf 18 = .ok (.aload_n 0, 1) := by decide +kernel
theorem dX3_taxOf_19 : decode cX3_taxOf 19 = .ok (.getfield 12, 3) := by decide +kernel
theorem dX3_taxOf_22 : decode cX3_taxOf 22 = .ok (.getfield 94, 3) := by decide +kernel
theorem dX3_taxOf_25 : decode cX3_taxOf 25 = .ok (.iload_n 1, 1) := by decide +kernel
theorem dX3_taxOf_26 : decode cX3_taxOf 26 = .ok (.invokevirtual 90, 3) := by decide +kernel
theorem dX3_taxOf_29 : decode cX3_taxOf 29 = .ok (.aload_n 0, 1) := by decide +kernel
theorem dX3_taxOf_30 : decode cX3_taxOf 30 = .ok (.getfield 30, 3) := by decide +kernel
theorem dX3_taxOf_33 : decode cX3_taxOf 33 = .ok (.iconst 1, 1) := by decide +kernel
theorem dX3_taxOf_34 : decode cX3_taxOf 34 = .ok (.invokevirtual 90, 3) := by decide +kernel
theorem dX3_taxOf_37 : decode cX3_taxOf 37 = .ok (.imul, 1) := by decide +kernel
theorem dX3_taxOf_38 : decode cX3_taxOf 38 = .ok (.iload_n 2, 1) := by decide +kernel
theorem dX3_taxOf_39 : decode cX3_taxOf 39 = .ok (.aload_n 0, 1) := by decide +kernel
theorem dX3_taxOf_40 : decode cX3_taxOf 40 = .ok (.getfield 30, 3) := by decide +kernel
theorem dX3_taxOf_43 : decode cX3_taxOf 43 = .ok (.iconst 0, 1) := by decide +kernel
theorem dX3_taxOf_44 : decode cX3_taxOf 44 = .ok (.invokevirtual 90, 3) := by decide +kernel
theorem dX3_taxOf_47 : decode cX3_taxOf 47 = .ok (.imul, 1) := by decide +kernel
theorem dX3_taxOf_48 : decode cX3_taxOf 48 = .ok (.iadd, 1) := by decide +kernel
theorem dX3_taxOf_49 : decode cX3_taxOf 49 = .ok (.ireturn, 1) := by decide +kernel
theorem dX3_passDay_0 : decode cX3_passDay 0 = .ok (.iconst 0, 1) := by decide +kernel
theorem dX3_passDay_1 : decode cX3_passDay 1 = .ok (.istore_n 1, 1) := by decide +kernel
theorem dX3_passDay_2 : decode cX3_passDay 2 = .ok (.iload_n 1, 1) := by decide +kernel
theorem dX3_passDay_3 : decode cX3_passDay 3 = .ok (.aload_n 0, 1) := by decide +kernel
theorem dX3_passDay_4 : decode cX3_passDay 4 = .ok (.getfield 74, 3) := by decide +kernel
theorem dX3_passDay_7 : decode cX3_passDay 7 = .ok (.if_icmp .ge 24, 3) := by decide +kernel
theorem dX3_passDay_10 : decode cX3_passDay 10 = .ok (.aload_n 0, 1) := by decide +kernel
theorem dX3_passDay_11 : decode cX3_passDay 11 = .ok (.iload_n 1, 1) := by decide +kernel
theorem dX3_passDay_12 : decode cX3_passDay 12 = .ok (.aload_n 0, 1) := by decide +kernel
theorem dX3_passDay_13 : decode cX3_passDay 13 = .ok (.iload_n 1, 1) := by decide +kernel
theorem dX3_passDay_14 : decode cX3_passDay 14 = .ok (.invokevirtual 97, 3) := by decide +kernel
theorem dX3_passDay_17 : decode cX3_passDay 17 = .ok (.invokevirtual 100, 3) := by decide +kernel
theorem dX3_passDay_20 : decode cX3_passDay 20 = .ok (.aload_n 0, 1) := by decide +kernel
theorem dX3_passDay_21 : decode cX3_passDay 21 = .ok (.iload_n 1, 1) := by decide +kernel
theorem dX3_passDay_22 : decode cX3_passDay 22 = .ok (.invokevirtual 103, 3) := by decide +kernel
theorem dX3_passDay_25 : decode cX3_passDay 25 = .ok (.iinc 1 1, 3) := by decide +kernel
theorem dX3_passDay_28 : decode cX3_passDay 28 = .ok (.goto (-26), 3) := by decide +kernel
theorem dX3_passDay_31 : decode cX3_passDay 31 = .ok (.aload_n 0, 1) := by decide +kernel
theorem dX3_passDay_32 : decode cX3_passDay 32 = .ok (.dup, 1) := by decide +kernel
theorem dX3_passDay_33 : decode cX3_passDay 33 = .ok (.getfield 78, 3) := by decide +kernel
theorem dX3_passDay_36 : decode cX3_passDay 36 = .ok (.iconst 1, 1) := by decide +kernel
theorem dX3_passDay_37 : decode cX3_passDay 37 = .ok (.iadd, 1) := by decide +kernel
theorem dX3_passDay_38 : decode cX3_passDay 38 = .ok (.putfield 78, 3) := by decide +kernel
theorem dX3_passDay_41 : decode cX3_passDay 41 = .ok (.return_, 1) := by decide +kernel
theorem dX3_chargeTax_0 : decode cX3_chargeTax 0 = .ok (.aload_n 0, 1) := by decide +kernel
theorem dX3_chargeTax_1 : decode cX3_chargeTax 1 = .ok (.iload_n 1, 1) := by decide +kernel
theorem dX3_chargeTax_2 : decode cX3_chargeTax 2 = .ok (.iload_n 2, 1) := by decide +kernel
theorem dX3_chargeTax_3 : decode cX3_chargeTax 3 = .ok (.ineg, 1) := by decide +kernel
theorem dX3_chargeTax_4 : decode cX3_chargeTax 4 = .ok (.i2l, 1) := by decide +kernel
theorem dX3_chargeTax_5 : decode cX3_chargeTax 5 = .ok (.invokevirtual 106, 3) := by decide +kernel
theorem dX3_chargeTax_8 : decode cX3_chargeTax 8 = .ok (.aload_n 0, 1) := by decide +kernel
theorem dX3_chargeTax_9 : decode cX3_chargeTax 9 = .ok (.getfield 38, 3) := by decide +kernel
theorem dX3_chargeTax_12 : decode cX3_chargeTax 12 = .ok (.iload_n 1, 1) := by decide +kernel
theorem dX3_chargeTax_13 : decode cX3_chargeTax 13 = .ok (.iload_n 2, 1) := by decide +kernel
theorem dX3_chargeTax_14 : decode cX3_chargeTax 14 = .ok (.invokevirtual 110, 3) := by decide +kernel
theorem dX3_chargeTax_17 : decode cX3_chargeTax 17 = .ok (.return_, 1) := by decide +kernel
theorem dX3_loseRanges_0 : decode cX3_loseRanges 0 = .ok (.aload_n 0, 1) := by decide +kernel
theorem dX3_loseRanges_1 : decode cX3_loseRanges 1 = .ok (.getfield 12, 3) := by decide +kernel
theorem dX3_loseRanges_4 : decode cX3_loseRanges 4 = .ok (.getfield 94, 3) := by decide +kernel
theorem dX3_loseRanges_7 : decode cX3_loseRanges 7 = .ok (.iload_n 1, 1) := by decide +kernel
theorem dX3_loseRanges_8 : decode cX3_loseRanges 8 = .ok (.invokevirtual 90, 3) := by decide +kernel
theorem dX3_loseRanges_11 : decode cX3_loseRanges 11 = .ok (.istore_n 2, 1) := by decide +kernel
theorem dX3_loseRanges_12 : decode cX3_loseRanges 12 = .ok (.iload_n 2, 1) := by decide +kernel
theorem dX3_loseRanges_13 : decode cX3_loseRanges 13 = .ok (.ifCond .le 75, 3) := by decide +kernel
theorem dX3_loseRanges_16 : decode cX3_loseRanges 16 = .ok (.aload_n 0, 1) := by decide +kernel
theorem dX3_loseRanges_17 : decode cX3_loseRanges 17 = .ok (.iload_n 1, 1) := by decide +kernel
theorem dX3_loseRanges_18 : decode cX3_loseRanges 18 = .ok (.invokevirtual 113, 3) := by decide +kernel
theorem dX3_loseRanges_21 : decode cX3_loseRanges 21 = .ok (.lconst 0, 1) := by decide +kernel
theorem dX3_loseRanges_22 : decode cX3_loseRanges 22 = .ok (.lcmp, 1) := by decide +kernel
theorem dX3_loseRanges_23 : decode cX3_loseRanges 23 = .ok (.ifCond .ge 65, 3) := by decide +kernel
theorem dX3_loseRanges_26 : decode cX3_loseRanges 26 = .ok (.aload_n 0, 1) := by decide +kernel
theorem dX3_loseRanges_27 : decode cX3_loseRanges 27 = .ok (.getfield 12, 3) := by decide +kernel
theorem dX3_loseRanges_30 : decode cX3_loseRanges 30 = .ok (.iload_n 1, 1) := by decide +kernel
theorem dX3_loseRanges_31 : decode cX3_loseRanges 31 = .ok (.invokevirtual 117, 3) := by decide +kernel
theorem dX3_loseRanges_34 : decode cX3_loseRanges 34 = .ok (.istore_n 3, 1) := by decide +kernel
theorem dX3_loseRanges_35 : decode cX3_loseRanges 35 = .ok (.aload_n 0, 1) := by decide +kernel
theorem dX3_loseRanges_36 : decode cX3_loseRanges 36 = .ok (.iload_n 1, 1) := by decide +kernel
theorem dX3_loseRanges_37 : decode cX3_loseRanges 37 = .ok (.invokevirtual 97, 3) := by decide +kernel
theorem dX3_loseRanges_40 : decode cX3_loseRanges 40 = .ok (.istore 4, 2) := by decide +kernel
theorem dX3_loseRanges_42 : decode cX3_loseRanges 42 = .ok (.aload_n 0, 1) := by decide +kernel
theorem dX3_loseRanges_43 : decode cX3_loseRanges 43 = .ok (.getfield 41, 3) := by decide +kernel
theorem dX3_loseRanges_46 : decode cX3_loseRanges 46 = .ok (.iload_n 1, 1) := by decide +kernel
theorem dX3_loseRanges_47 : decode cX3_loseRanges 47 = .ok (.aload_n 0, 1) := by decide +kernel
theorem dX3_loseRanges_48 : decode cX3_loseRanges 48 = .ok (.getfield 12, 3) := by decide +kernel
theorem dX3_loseRanges_51 : decode cX3_loseRanges 51 = .ok (.getfield 120, 3) := by decide +kernel
theorem dX3_loseRanges_54 : decode cX3_loseRanges 54 = .ok (.iload_n 3, 1) := by decide +kernel
theorem dX3_loseRanges_55 : decode cX3_loseRanges 55 = .ok (.invokevirtual 90, 3) := by decide +kernel
theorem dX3_loseRanges_58 : decode cX3_loseRanges 58 = .ok (.invokevirtual 110, 3) := by decide +kernel
theorem dX3_loseRanges_61 : decode cX3_loseRanges 61 = .ok (.aload_n 0, 1) := by decide +kernel
theorem dX3_loseRanges_62 : decode cX3_loseRanges 62 = .ok (.getfield 12, 3) := by decide +kernel
theorem dX3_loseRanges_65 : decode cX3_loseRanges 65 = .ok (.iload_n 3, 1) := by decide +kernel
theorem dX3_loseRanges_66 : decode cX3_loseRanges 66 = .ok (.invokevirtual 123, 3) := by decide +kernel
theorem dX3_loseRanges_69 : decode cX3_loseRanges 69 = .ok (.aload_n 0, 1) := by decide +kernel
theorem dX3_loseRanges_70 : decode cX3_loseRanges 70 = .ok (.iload_n 1, 1) := by decide +kernel
theorem dX3_loseRanges_71 : decode cX3_loseRanges 71 = .ok (.aload_n 0, 1) := by decide +kernel
theorem dX3_loseRanges_72 : decode cX3_loseRanges 72 = .ok (.iload_n 1, 1) := by decide +kernel
theorem dX3_loseRanges_73 : decode cX3_loseRanges 73 = .ok (.invokevirtual 97, 3) := by decide +kernel
theorem dX3_loseRanges_76 : decode cX3_loseRanges 76 = .ok (.iload 4, 2) := by decide +kernel
theorem dX3_loseRanges_78 : decode cX3_loseRanges 78 = .ok (.isub, 1) := by decide +kernel
theorem dX3_loseRanges_79 : decode cX3_loseRanges 79 = .ok (.invokevirtual 100, 3) := by decide +kernel
theorem dX3_loseRanges_82 : decode cX3_loseRanges 82 = .ok (.iinc 2 (-1), 3) := by decide +kernel
theorem dX3_loseRanges_85 : decode cX3_loseRanges 85 = .ok (.goto (-73), 3) := by decide +kernel
theorem dX3_loseRanges_88 : decode cX3_loseRanges 88 = .ok (.return_, 1) := by decide +kernel
theorem dX3_daysToLoss_0 : decode cX3_daysToLoss 0 = .ok (.aload_n 0, 1) := by decide +kernel
theorem dX3_daysToLoss_1 : decode cX3_daysToLoss 1 = .ok (.iload_n 1, 1) := by decide +kernel
theorem dX3_daysToLoss_2 : decode cX3_daysToLoss 2 = .ok (.invokevirtual 97, 3) := by decide +kernel
theorem dX3_daysToLoss_5 : decode cX3_daysToLoss 5 = .ok (.istore_n 2, 1) := by decide +kernel
theorem dX3_daysToLoss_6 : decode cX3_daysToLoss 6 = .ok (.aload_n 0, 1) := by decide +kernel
theorem dX3_daysToLoss_7 : decode cX3_daysToLoss 7 = .ok (.iload_n 1, 1) := by decide +kernel
theorem dX3_daysToLoss_8 : decode cX3_daysToLoss 8 = .ok (.invokevirtual 113, 3) := by decide +kernel
theorem dX3_daysToLoss_11 : decode cX3_daysToLoss 11 = .ok (.lstore_n 3, 1) := by decide +kernel
theorem dX3_daysToLoss_12 : decode cX3_daysToLoss 12 = .ok (.iconst 1, 1) := by decide +kernel
theorem dX3_daysToLoss_13 : decode cX3_daysToLoss 13 = .ok (.istore 5, 2) := by decide +kernel
theorem dX3_daysToLoss_15 : decode cX3_daysToLoss 15 = .ok (.iload 5, 2) := by decide +kernel
theorem dX3_daysToLoss_17 : decode cX3_daysToLoss 17 = .ok (.sipush 300, 3) := by decide +kernel
theorem dX3_daysToLoss_20 : decode cX3_daysToLoss 20 = .ok (.if_icmp .gt 37, 3) := by decide +kernel
theorem dX3_daysToLoss_23 : decode cX3_daysToLoss 23 = .ok (.aload_n 0, 1) := by decide +kernel
theorem dX3_daysToLoss_24 : decode cX3_daysToLoss 24 = .ok (.getfield 12, 3) := by decide +kernel
theorem dX3_daysToLoss_27 : decode cX3_daysToLoss 27 = .ok (.getfield 94, 3) := by decide +kernel
theorem dX3_daysToLoss_30 : decode cX3_daysToLoss 30 = .ok (.iload_n 1, 1) := by decide +kernel
theorem dX3_daysToLoss_31 : decode cX3_daysToLoss 31 = .ok (.invokevirtual 90, 3) := by decide +kernel
theorem dX3_daysToLoss_34 : decode cX3_daysToLoss 34 = .ok (.ifCond .le 23, 3) := by decide +kernel
theorem dX3_daysToLoss_37 : decode cX3_daysToLoss 37 = .ok (.lload_n 3, 1) := by decide +kernel
theorem dX3_daysToLoss_38 : decode cX3_daysToLoss 38 = .ok (.iload_n 2, 1) := by decide +kernel
theorem dX3_daysToLoss_39 : decode cX3_daysToLoss 39 = .ok (.i2l, 1) := by decide +kernel
theorem dX3_daysToLoss_40 : decode cX3_daysToLoss 40 = .ok (.lsub, 1) := by decide +kernel
theorem dX3_daysToLoss_41 : decode cX3_daysToLoss 41 = .ok (.lstore_n 3, 1) := by decide +kernel
theorem dX3_daysToLoss_42 : decode cX3_daysToLoss 42 = .ok (.lload_n 3, 1) := by decide +kernel
theorem dX3_daysToLoss_43 : decode cX3_daysToLoss 43 = .ok (.lconst 0, 1) := by decide +kernel
theorem dX3_daysToLoss_44 : decode cX3_daysToLoss 44 = .ok (.lcmp, 1) := by decide +kernel
theorem dX3_daysToLoss_45 : decode cX3_daysToLoss 45 = .ok (.ifCond .ge 6, 3) := by decide +kernel
theorem dX3_daysToLoss_48 : decode cX3_daysToLoss 48 = .ok (.iload 5, 2) := by decide +kernel
theorem dX3_daysToLoss_50 : decode cX3_daysToLoss 50 = .ok (.ireturn, 1) := by decide +kernel
theorem dX3_daysToLoss_51 : decode cX3_daysToLoss 51 = .ok (.iinc 5 1, 3) := by decide +kernel
theorem dX3_daysToLoss_54 : decode cX3_daysToLoss 54 = .ok (.goto (-39), 3) := by decide +kernel
theorem dX3_daysToLoss_57 : decode cX3_daysToLoss 57 = .ok (.bipush (-6), 2) := by decide +kernel
theorem dX3_daysToLoss_59 : decode cX3_daysToLoss 59 = .ok (.ireturn, 1) := by decide +kernel
theorem dX3_carryTransfer_0 : decode cX3_carryTransfer 0 = .ok (.aload_n 0, 1) := by decide +kernel
theorem dX3_carryTransfer_1 : decode cX3_carryTransfer 1 = .ok (.getfield 21, 3) := by decide +kernel
theorem dX3_carryTransfer_4 : decode cX3_carryTransfer 4 = .ok (.iload_n 1, 1) := by decide +kernel
theorem dX3_carryTransfer_5 : decode cX3_carryTransfer 5 = .ok (.iconst 0, 1) := by decide +kernel
theorem dX3_carryTransfer_6 : decode cX3_carryTransfer 6 = .ok (.invokevirtual 126, 3) := by decide +kernel
theorem dX3_carryTransfer_9 : decode cX3_carryTransfer 9 = .ok (.istore_n 3, 1) := by decide +kernel
theorem dX3_carryTransfer_10 : decode cX3_carryTransfer 10 = .ok (.aload_n 0, 1) := by decide +kernel
theorem dX3_carryTransfer_11 : decode cX3_carryTransfer 11 = .ok (.getfield 21, 3) := by decide +kernel
theorem dX3_carryTransfer_14 : decode cX3_carryTransfer 14 = .ok (.iload_n 1, 1) := by decide +kernel
theorem dX3_carryTransfer_15 : decode cX3_carryTransfer 15 = .ok (.iconst 1, 1) := by decide +kernel
theorem dX3_carryTransfer_16 : decode cX3_carryTransfer 16 = .ok (.invokevirtual 126, 3) := by decide +kernel
theorem dX3_carryTransfer_19 : decode cX3_carryTransfer 19 = .ok (.istore 4, 2) := by decide +kernel
theorem dX3_carryTransfer_21 : decode cX3_carryTransfer 21 = .ok (.aload_n 0, 1) := by decide +kernel
theorem dX3_carryTransfer_22 : decode cX3_carryTransfer 22 = .ok (.getfield 21, 3) := by decide +kernel
theorem dX3_carryTransfer_25 : decode cX3_carryTransfer 25 = .ok (.iload_n 1, 1) := by decide +kernel
theorem dX3_carryTransfer_26 : decode cX3_carryTransfer 26 = .ok (.iconst 2, 1) := by decide +kernel
theorem dX3_carryTransfer_27 : decode cX3_carryTransfer 27 = .ok (.invokevirtual 126, 3) := by decide +kernel
theorem dX3_carryTransfer_30 : decode cX3_carryTransfer 30 = .ok (.istore 5, 2) := by decide +kernel
theorem dX3_carryTransfer_32 : decode cX3_carryTransfer 32 = .ok (.aload_n 0, 1) := by decide +kernel
theorem dX3_carryTransfer_33 : decode cX3_carryTransfer 33 = .ok (.getfield 21, 3) := by decide +kernel
theorem dX3_carryTransfer_36 : decode cX3_carryTransfer 36 = .ok (.iload_n 1, 1) := by decide +kernel
theorem dX3_carryTransfer_37 : decode cX3_carryTransfer 37 = .ok (.iconst 3, 1) := by decide +kernel
theorem dX3_carryTransfer_38 : decode cX3_carryTransfer 38 = .ok (.invokevirtual 126, 3) := by decide +kernel
theorem dX3_carryTransfer_41 : decode cX3_carryTransfer 41 = .ok (.istore 6, 2) := by decide +kernel
theorem dX3_carryTransfer_43 : decode cX3_carryTransfer 43 = .ok (.aload_n 0, 1) := by decide +kernel
theorem dX3_carryTransfer_44 : decode cX3_carryTransfer 44 = .ok (.getfield 21, 3) := by decide +kernel
theorem dX3_carryTransfer_47 : decode cX3_carryTransfer 47 = .ok (.iload_n 1, 1) := by decide +kernel
theorem dX3_carryTransfer_48 : decode cX3_carryTransfer 48 = .ok (.iconst 4, 1) := by decide +kernel
theorem dX3_carryTransfer_49 : decode cX3_carryTransfer 49 = .ok (.invokevirtual 126, 3) := by decide +kernel
theorem dX3_carryTransfer_52 : decode cX3_carryTransfer 52 = .ok (.istore 7, 2) := by decide +kernel
theorem dX3_carryTransfer_54 : decode cX3_carryTransfer 54 = .ok (.aload_n 0, 1) := by decide +kernel
theorem dX3_carryTransfer_55 : decode cX3_carryTransfer 55 = .ok (.getfield 30, 3) := by decide +kernel
theorem dX3_carryTransfer_58 : decode cX3_carryTransfer 58 = .ok (.iconst 2, 1) := by decide +kernel
theorem dX3_carryTransfer_59 : decode cX3_carryTransfer 59 = .ok (.invokevirtual 90, 3) := by decide +kernel
theorem dX3_carryTransfer_62 : decode cX3_carryTransfer 62 = .ok (.istore 8, 2) := by decide +kernel
theorem dX3_carryTransfer_64 : decode cX3_carryTransfer 64 = .ok (.aload_n 0, 1) := by decide +kernel
theorem dX3_carryTransfer_65 : decode cX3_carryTransfer 65 = .ok (.getfield 12, 3) := by decide +kernel
theorem dX3_carryTransfer_68 : decode cX3_carryTransfer 68 = .ok (.iload_n 3, 1) := by decide +kernel
theorem dX3_carryTransfer_69 : decode cX3_carryTransfer 69 = .ok (.iload 5, 2) := by decide +kernel
theorem dX3_carryTransfer_71 : decode cX3_carryTransfer 71 = .ok (.iload 6, 2) := by decide +kernel
theorem dX3_carryTransfer_73 : decode cX3_carryTransfer 73 = .ok (.invokevirtual 129, 3) := by decide +kernel
theorem dX3_carryTransfer_76 : decode cX3_carryTransfer 76 = .ok (.iload 6, 2) := by decide +kernel
theorem dX3_carryTransfer_78 : decode cX3_carryTransfer 78 = .ok (.if_icmp .ne 30, 3) := by decide +kernel
theorem dX3_carryTransfer_81 : decode cX3_carryTransfer 81 = .ok (.aload_n 0, 1) := by decide +kernel
theorem dX3_carryTransfer_82 : decode cX3_carryTransfer 82 = .ok (.iload 4, 2) := by decide +kernel
theorem dX3_carryTransfer_84 : decode cX3_carryTransfer 84 = .ok (.invokevirtual 113, 3) := by decide +kernel
theorem dX3_carryTransfer_87 : decode cX3_carryTransfer 87 = .ok (.iload 7, 2) := by decide +kernel
theorem dX3_carryTransfer_89 : decode cX3_carryTransfer 89 = .ok (.iload 8, 2) := by decide +kernel
theorem dX3_carryTransfer_91 : decode cX3_carryTransfer 91 = .ok (.iadd, 1) := by decide +kernel
theorem dX3_carryTransfer_92 : decode cX3_carryTransfer 92 = .ok (.i2l, 1) := by decide +kernel
theorem dX3_carryTransfer_93 : decode cX3_carryTransfer 93 = .ok (.lcmp, 1) := by decide +kernel
theorem dX3_carryTransfer_94 : decode cX3_carryTransfer 94 = .ok (.ifCond .lt 14, 3) := by decide +kernel
theorem dX3_carryTransfer_97 : decode cX3_carryTransfer 97 = .ok (.aload_n 0, 1) := by decide +kernel
theorem dX3_carryTransfer_98 : decode cX3_carryTransfer 98 = .ok (.iload 4, 2) := by decide +kernel
theorem dX3_carryTransfer_100 : decode cX3_carryTransfer 100 = .ok (.iload 6, 2) := by decide +kernel
theorem dX3_carryTransfer_102 : decode cX3_carryTransfer 102 = .ok (.invokevirtual 133, 3) := by decide +kernel
theorem dX3_carryTransfer_105 : decode cX3_carryTransfer 105 = .ok (.ifCond .ne 5, 3) := by decide +kernel
theorem dX3_carryTransfer_108 : decode cX3_carryTransfer 108 = .ok (.iconst 0, 1) := by decide +kernel
theorem dX3_carryTransfer_109 : decode cX3_carryTransfer 109 = .ok (.ireturn, 1) := by decide +kernel
theorem dX3_carryTransfer_110 : decode cX3_carryTransfer 110 = .ok (.aload_n 2, 1) := by decide +kernel
theorem dX3_carryTransfer_111 : decode cX3_carryTransfer 111 = .ok (.aload_n 0, 1) := by decide +kernel
theorem dX3_carryTransfer_112 : decode cX3_carryTransfer 112 = .ok (.getfield 12, 3) := by decide +kernel
theorem dX3_carryTransfer_115 : decode cX3_carryTransfer 115 = .ok (.iload 4, 2) := by decide +kernel
theorem dX3_carryTransfer_117 : decode cX3_carryTransfer 117 = .ok (.iload 5, 2) := by decide +kernel
theorem dX3_carryTransfer_119 : decode cX3_carryTransfer 119 = .ok (.iload 6, 2) := by decide +kernel
theorem dX3_carryTransfer_121 : decode cX3_carryTransfer 121 = .ok (.invokevirtual 137, 3) := by decide +kernel
theorem dX3_carryTransfer_124 : decode cX3_carryTransfer 124 = .ok (.aload_n 2, 1) := by decide +kernel
theorem dX3_carryTransfer_125 : decode cX3_carryTransfer 125 = .ok (.getfield 141, 3) := by decide +kernel
theorem dX3_carryTransfer_128 : decode cX3_carryTransfer 128 = .ok (.bipush 40, 2) := by decide +kernel
theorem dX3_carryTransfer_130 : decode cX3_carryTransfer 130 = .ok (.if_icmp .gt 36, 3) := by decide +kernel
theorem dX3_carryTransfer_133 : decode cX3_carryTransfer 133 = .ok (.aload_n 2, 1) := by decide +kernel
theorem dX3_carryTransfer_134 : decode cX3_carryTransfer 134 = .ok (.iload_n 3, 1) := by decide +kernel
theorem dX3_carryTransfer_135 : decode cX3_carryTransfer 135 = .ok (.aload_n 0, 1) := by decide +kernel
theorem dX3_carryTransfer_136 : decode cX3_carryTransfer 136 = .ok (.getfield 30, 3) := by decide +kernel
theorem dX3_carryTransfer_139 : decode cX3_carryTransfer 139 = .ok (.iconst 3, 1) := by decide +kernel
theorem dX3_carryTransfer_140 : decode cX3_carryTransfer 140 = .ok (.invokevirtual 90, 3) := by decide +kernel
theorem dX3_carryTransfer_143 : decode cX3_carryTransfer 143 = .ok (.invokevirtual 144, 3) := by decide +kernel
theorem dX3_carryTransfer_146 : decode cX3_carryTransfer 146 = .ok (.ifCond .ne 20, 3) := by decide +kernel
theorem dX3_carryTransfer_149 : decode cX3_carryTransfer 149 = .ok (.aload_n 2, 1) := by decide +kernel
theorem dX3_carryTransfer_150 : decode cX3_carryTransfer 150 = .ok (.iload 4, 2) := by decide +kernel
theorem dX3_carryTransfer_152 : decode cX3_carryTransfer 152 = .ok (.aload_n 0, 1) := by decide +kernel
theorem dX3_carryTransfer_153 : decode cX3_carryTransfer 153 = .ok (.getfield 30, 3) := by decide +kernel
theorem dX3_carryTransfer_156 : decode cX3_carryTransfer 156 = .ok (.iconst 3, 1) := by decide +kernel
theorem dX3_carryTransfer_157 : decode cX3_carryTransfer 157 = .ok (.invokevirtual 90, 3) := by decide +kernel
theorem dX3_carryTransfer_160 : decode cX3_carryTransfer 160 = .ok (.invokevirtual 144, 3) := by decide +kernel
theorem dX3_carryTransfer_163 : decode cX3_carryTransfer 163 = .ok (.ifCond .eq 5, 3) := by decide +kernel
theorem dX3_carryTransfer_166 : decode cX3_carryTransfer 166 = .ok (.iconst 0, 1) := by decide +kernel
theorem dX3_carryTransfer_167 : decode cX3_carryTransfer 167 = .ok (.ireturn, 1) := by decide +kernel
theorem dX3_carryTransfer_168 : decode cX3_carryTransfer 168 = .ok (.aload_n 0, 1) := by decide +kernel
theorem dX3_carryTransfer_169 : decode cX3_carryTransfer 169 = .ok (.getfield 12, 3) := by decide +kernel
theorem dX3_carryTransfer_172 : decode cX3_carryTransfer 172 = .ok (.aload_n 2, 1) := by decide +kernel
theorem dX3_carryTransfer_173 : decode cX3_carryTransfer 173 = .ok (.invokevirtual 52, 3) := by decide +kernel
theorem dX3_carryTransfer_176 : decode cX3_carryTransfer 176 = .ok (.aload_n 0, 1) := by decide +kernel
theorem dX3_carryTransfer_177 : decode cX3_carryTransfer 177 = .ok (.iload 4, 2) := by decide +kernel
theorem dX3_carryTransfer_179 : decode cX3_carryTransfer 179 = .ok (.iload 7, 2) := by decide +kernel
theorem dX3_carryTransfer_181 : decode cX3_carryTransfer 181 = .ok (.ineg, 1) := by decide +kernel
theorem dX3_carryTransfer_182 : decode cX3_carryTransfer 182 = .ok (.iload 8, 2) := by decide +kernel
theorem dX3_carryTransfer_184 : decode cX3_carryTransfer 184 = .ok (.isub, 1) := by decide +kernel
theorem dX3_carryTransfer_185 : decode cX3_carryTransfer 185 = .ok (.i2l, 1) := by decide +kernel
theorem dX3_carryTransfer_186 : decode cX3_carryTransfer 186 = .ok (.invokevirtual 106, 3) := by decide +kernel
theorem dX3_carryTransfer_189 : decode cX3_carryTransfer 189 = .ok (.aload_n 0, 1) := by decide +kernel
theorem dX3_carryTransfer_190 : decode cX3_carryTransfer 190 = .ok (.iload_n 3, 1) := by decide +kernel
theorem dX3_carryTransfer_191 : decode cX3_carryTransfer 191 = .ok (.iload 7, 2) := by decide +kernel
theorem dX3_carryTransfer_193 : decode cX3_carryTransfer 193 = .ok (.i2l, 1) := by decide +kernel
theorem dX3_carryTransfer_194 : decode cX3_carryTransfer 194 = .ok (.invokevirtual 106, 3) := by decide +kernel
theorem dX3_carryTransfer_197 : decode cX3_carryTransfer 197 = .ok (.aload_n 0, 1) := by decide +kernel
theorem dX3_carryTransfer_198 : decode cX3_carryTransfer 198 = .ok (.dup, 1) := by decide +kernel
theorem dX3_carryTransfer_199 : decode cX3_carryTransfer 199 = .ok (.getfield 84, 3) := by decide +kernel
theorem dX3_carryTransfer_202 : decode cX3_carryTransfer 202 = .ok (.iload 8, 2) := by decide +kernel
theorem dX3_carryTransfer_204 : decode cX3_carryTransfer 204 = .ok (.iadd, 1) := by decide +kernel
theorem dX3_carryTransfer_205 : decode cX3_carryTransfer 205 = .ok (.putfield 84, 3) := by decide +kernel
theorem dX3_carryTransfer_208 : decode cX3_carryTransfer 208 = .ok (.iconst 1, 1) := by decide +kernel
theorem dX3_carryTransfer_209 : decode cX3_carryTransfer 209 = .ok (.ireturn, 1) := by decide +kernel
theorem dX4_init_0 : decode cX4_init 0 = .ok (.aload_n 0, 1) := by decide +kernel
theorem dX4_init_1 : decode cX4_init 1 = .ok (.invokespecial 1, 3) := by decide +kernel
theorem dX4_init_4 : decode cX4_init 4 = .ok (.aload_n 0, 1) := by decide +kernel
theorem dX4_init_5 : decode cX4_init 5 = .ok (.iload_n 1, 1) := by decide +kernel
theorem dX4_init_6 : decode cX4_init 6 = .ok (.iconst 0, 1) := by decide +kernel
theorem dX4_init_7 : decode cX4_init 7 = .ok (.invokestatic 7, 3) := by decide +kernel
theorem dX4_init_10 : decode cX4_init 10 = .ok (.newarray .int, 2) := by decide +kernel
theorem dX4_init_12 : decode cX4_init 12 = .ok (.putfield 13, 3) := by decide +kernel
theorem dX4_init_15 : decode cX4_init 15 = .ok (.return_, 1) := by decide +kernel
theorem dX4_at_0 : decode cX4_at 0 = .ok (.iload_n 1, 1) := by decide +kernel
theorem dX4_at_1 : decode cX4_at 1 = .ok (.ifCond .lt 21, 3) := by decide +kernel
theorem dX4_at_4 : decode cX4_at 4 = .ok (.iload_n 1, 1) := by decide +kernel
theorem dX4_at_5 : decode cX4_at 5 = .ok (.aload_n 0, 1) := by decide +kernel
theorem dX4_at_6 : decode cX4_at 6 = .ok (.getfield 13, 3) := by decide +kernel
theorem dX4_at_9 : decode cX4_at 9 = .ok (.arraylength, 1) := by decide +kernel
theorem dX4_at_10 : decode cX4_at 10 = .ok (.if_icmp .ge 12, 3) := by decide +kernel
theorem dX4_at_13 : decode cX4_at 13 = .ok (.aload_n 0, 1) := by decide +kernel
theorem dX4_at_14 : decode cX4_at 14 = .ok (.getfield 13, 3) := by decide +kernel
theorem dX4_at_17 : decode cX4_at 17 = .ok (.iload_n 1, 1) := by decide +kernel
theorem dX4_at_18 : decode cX4_at 18 = .ok (.iaload, 1) := by decide +kernel
theorem dX4_at_19 : decode cX4_at 19 = .ok (.goto 4, 3) := by decide +kernel
theorem dX4_at_22 : decode cX4_at 22 = .ok (.iconst 0, 1) := by decide +kernel
theorem dX4_at_23 : decode cX4_at 23 = .ok (.ireturn, 1) := by decide +kernel
theorem dX4_store_0 : decode cX4_store 0 = .ok (.iload_n 1, 1) := by decide +kernel
theorem dX4_store_1 : decode cX4_store 1 = .ok (.ifCond .lt 19, 3) := by decide +kernel
theorem dX4_store_4 : decode cX4_store 4 = .ok (.iload_n 1, 1) := by decide +kernel
theorem dX4_store_5 : decode cX4_store 5 = .ok (.aload_n 0, 1) := by decide +kernel
theorem dX4_store_6 : decode cX4_store 6 = .ok (.getfield 13, 3) := by decide +kernel
theorem dX4_store_9 : decode cX4_store 9 = .ok (.arraylength, 1) := by decide +kernel
theorem dX4_store_10 : decode cX4_store 10 = .ok (.if_icmp .ge 10, 3) := by decide +kernel
theorem dX4_store_13 : decode cX4_store 13 = .ok (.aload_n 0, 1) := by decide +kernel
theorem dX4_store_14 : decode cX4_store 14 = .ok (.getfield 13, 3) := by decide +kernel
theorem dX4_store_17 : decode cX4_store 17 = .ok (.iload_n 1, 1) := by decide +kernel
theorem dX4_store_18 : decode cX4_store 18 = .ok (.iload_n 2, 1) := by decide +kernel
theorem dX4_store_19 : decode cX4_store 19 = .ok (.iastore, 1) := by decide +kernel
theorem dX4_store_20 : decode cX4_store 20 = .ok (.return_, 1) := by decide +kernel
theorem dX4_add_0 : decode cX4_add 0 = .ok (.iload_n 1, 1) := by decide +kernel
theorem dX4_add_1 : decode cX4_add 1 = .ok (.ifCond .lt 22, 3) := by decide +kernel
theorem dX4_add_4 : decode cX4_add 4 = .ok (.iload_n 1, 1) := by decide +kernel
theorem dX4_add_5 : decode cX4_add 5 = .ok (.aload_n 0, 1) := by decide +kernel
theorem dX4_add_6 : decode cX4_add 6 = .ok (.getfield 13, 3) := by decide +kernel
theorem dX4_add_9 : decode cX4_add 9 = .ok (.arraylength, 1) := by decide +kernel
theorem dX4_add_10 : decode cX4_add 10 = .ok (.if_icmp .ge 13, 3) := by decide +kernel
theorem dX4_add_13 : decode cX4_add 13 = .ok (.aload_n 0, 1) := by decide +kernel
theorem dX4_add_14 : decode cX4_add 14 = .ok (.getfield 13, 3) := by decide +kernel
theorem dX4_add_17 : decode cX4_add 17 = .ok (.iload_n 1, 1) := by decide +kernel
theorem dX4_add_18 : decode cX4_add 18 = .ok (.dup2, 1) := by decide +kernel
theorem dX4_add_19 : decode cX4_add 19 = .ok (.iaload, 1) := by decide +kernel
theorem dX4_add_20 : decode cX4_add 20 = .ok (.iload_n 2, 1) := by decide +kernel
theorem dX4_add_21 : decode cX4_add 21 = .ok (.iadd, 1) := by decide +kernel
theorem dX4_add_22 : decode cX4_add 22 = .ok (.iastore, 1) := by decide +kernel
theorem dX4_add_23 : decode cX4_add 23 = .ok (.return_, 1) := by decide +kernel
theorem dX4_clear_0 : decode cX4_clear 0 = .ok (.iconst 0, 1) := by decide +kernel
theorem dX4_clear_1 : decode cX4_clear 1 = .ok (.istore_n 1, 1) := by decide +kernel
theorem dX4_clear_2 : decode cX4_clear 2 = .ok (.iload_n 1, 1) := by decide +kernel
theorem dX4_clear_3 : decode cX4_clear 3 = .ok (.aload_n 0, 1) := by decide +kernel
theorem dX4_clear_4 : decode cX4_clear 4 = .ok (.getfield 13, 3) := by decide +kernel
theorem dX4_clear_7 : decode cX4_clear 7 = .ok (.arraylength, 1) := by decide +kernel
theorem dX4_clear_8 : decode cX4_clear 8 = .ok (.if_icmp .ge 16, 3) := by decide +kernel
theorem dX4_clear_11 : decode cX4_clear 11 = .ok (.aload_n 0, 1) := by decide +kernel
theorem dX4_clear_12 : decode cX4_clear 12 = .ok (.getfield 13, 3) := by decide +kernel
theorem dX4_clear_15 : decode cX4_clear 15 = .ok (.iload_n 1, 1) := by decide +kernel
theorem dX4_clear_16 : decode cX4_clear 16 = .ok (.iconst 0, 1) := by decide +kernel
theorem dX4_clear_17 : decode cX4_clear 17 = .ok (.iastore, 1) := by decide +kernel
theorem dX4_clear_18 : decode cX4_clear 18 = .ok (.iinc 1 1, 3) := by decide +kernel
theorem dX4_clear_21 : decode cX4_clear 21 = .ok (.goto (-19), 3) := by decide +kernel
theorem dX4_clear_24 : decode cX4_clear 24 = .ok (.return_, 1) := by decide +kernel
theorem dX4_sum_0 : decode cX4_sum 0 = .ok (.iconst 0, 1) := by decide +kernel
theorem dX4_sum_1 : decode cX4_sum 1 = .ok (.istore_n 1, 1) := by decide +kernel
theorem dX4_sum_2 : decode cX4_sum 2 = .ok (.iconst 0, 1) := by decide +kernel
theorem dX4_sum_3 : decode cX4_sum 3 = .ok (.istore_n 2, 1) := by decide +kernel
theorem dX4_sum_4 : decode cX4_sum 4 = .ok (.iload_n 2, 1) := by decide +kernel
theorem dX4_sum_5 : decode cX4_sum 5 = .ok (.aload_n 0, 1) := by decide +kernel
theorem dX4_sum_6 : decode cX4_sum 6 = .ok (.getfield 13, 3) := by decide +kernel
theorem dX4_sum_9 : decode cX4_sum 9 = .ok (.arraylength, 1) := by decide +kernel
theorem dX4_sum_10 : decode cX4_sum 10 = .ok (.if_icmp .ge 18, 3) := by decide +kernel
theorem dX4_sum_13 : decode cX4_sum 13 = .ok (.iload_n 1, 1) := by decide +kernel
theorem dX4_sum_14 : decode cX4_sum 14 = .ok (.aload_n 0, 1) := by decide +kernel
theorem dX4_sum_15 : decode cX4_sum 15 = .ok (.getfield 13, 3) := by decide +kernel
theorem dX4_sum_18 : decode cX4_sum 18 = .ok (.iload_n 2, 1) := by decide +kernel
theorem dX4_sum_19 : decode cX4_sum 19 = .ok (.iaload, 1) := by decide +kernel
theorem dX4_sum_20 : decode cX4_sum 20 = .ok (.iadd, 1) := by decide +kernel
theorem dX4_sum_21 : decode cX4_sum 21 = .ok (.istore_n 1, 1) := by decide +kernel
theorem dX4_sum_22 : decode cX4_sum 22 = .ok (.iinc 2 1, 3) := by decide +kernel
theorem dX4_sum_25 : decode cX4_sum 25 = .ok (.goto (-21), 3) := by decide +kernel
theorem dX4_sum_28 : decode cX4_sum 28 = .ok (.iload_n 1, 1) := by decide +kernel
theorem dX4_sum_29 : decode cX4_sum 29 = .ok (.ireturn, 1) := by decide +kernel
theorem dX4_copy_0 : decode cX4_copy 0 = .ok (.aload_n 1, 1) := by decide +kernel
theorem dX4_copy_1 : decode cX4_copy 1 = .ok (.getfield 13, 3) := by decide +kernel
theorem dX4_copy_4 : decode cX4_copy 4 = .ok (.iconst 0, 1) := by decide +kernel
theorem dX4_copy_5 : decode cX4_copy 5 = .ok (.aload_n 0, 1) := by decide +kernel
theorem dX4_copy_6 : decode cX4_copy 6 = .ok (.getfield 13, 3) := by decide +kernel
theorem dX4_copy_9 : decode cX4_copy 9 = .ok (.iconst 0, 1) := by decide +kernel
theorem dX4_copy_10 : decode cX4_copy 10 = .ok (.aload_n 0, 1) := by decide +kernel
theorem dX4_copy_11 : decode cX4_copy 11 = .ok (.getfield 13, 3) := by decide +kernel
theorem dX4_copy_14 : decode cX4_copy 14 = .ok (.arraylength, 1) := by decide +kernel
theorem dX4_copy_15 : decode cX4_copy 15 = .ok (.aload_n 1, 1) := by decide +kernel
theorem dX4_copy_16 : decode cX4_copy 16 = .ok (.getfield 13, 3) := by decide +kernel
theorem dX4_copy_19 : decode cX4_copy 19 = .ok (.arraylength, 1) := by decide +kernel
theorem dX4_copy_20 : decode cX4_copy 20 = .ok (.invokestatic 19, 3) := by decide +kernel
theorem dX4_copy_23 : decode cX4_copy 23 = .ok (.invokestatic 22, 3) := by decide +kernel
theorem dX4_copy_26 : decode cX4_copy 26 = .ok (.return_, 1) := by decide +kernel
theorem dX5_init_0 : decode cX5_init 0 = .ok (.aload_n 0, 1) := by decide +kernel
theorem dX5_init_1 : decode cX5_init 1 = .ok (.invokespecial 3, 3) := by decide +kernel
theorem dX5_init_4 : decode cX5_init 4 = .ok (.aload_n 0, 1) := by decide +kernel
theorem dX5_init_5 : decode cX5_init 5 = .ok (.new 9, 3) := by decide +kernel
theorem dX5_init_8 : decode cX5_init 8 = .ok (.dup, 1) := by decide +kernel
theorem dX5_init_9 : decode cX5_init 9 = .ok (.bipush 42, 2) := by decide +kernel
theorem dX5_init_11 : decode cX5_init 11 = .ok (.invokespecial 11, 3) := by decide +kernel
theorem dX5_init_14 : decode cX5_init 14 = .ok (.putfield 14, 3) := by decide +kernel
theorem dX5_init_17 : decode cX5_init 17 = .ok (.aload_n 0, 1) := by decide +kernel
theorem dX5_init_18 : decode cX5_init 18 = .ok (.new 9, 3) := by decide +kernel
theorem dX5_init_21 : decode cX5_init 21 = .ok (.dup, 1) := by decide +kernel
theorem dX5_init_22 : decode cX5_init 22 = .ok (.bipush 42, 2) := by decide +kernel
theorem dX5_init_24 : decode cX5_init 24 = .ok (.invokespecial 11, 3) := by decide +kernel
theorem dX5_init_27 : decode cX5_init 27 = .ok (.putfield 20, 3) := by decide +kernel
theorem dX5_init_30 : decode cX5_init 30 = .ok (.aload_n 0, 1) := by decide +kernel
theorem dX5_init_31 : decode cX5_init 31 = .ok (.new 9, 3) := by decide +kernel
theorem dX5_init_34 : decode cX5_init 34 = .ok (.dup, 1) := by decide +kernel
theorem dX5_init_35 : decode cX5_init 35 = .ok (.bipush 42, 2) := by decide +kernel
theorem dX5_init_37 : decode cX5_init 37 = .ok (.invokespecial 11, 3) := by decide +kernel
theorem dX5_init_40 : decode cX5_init 40 = .ok (.putfield 23, 3) := by decide +kernel
theorem dX5_init_43 : decode cX5_init 43 = .ok (.aload_n 0, 1) := by decide +kernel
theorem dX5_init_44 : decode cX5_init 44 = .ok (.new 9, 3) := by decide +kernel
theorem dX5_init_47 : decode cX5_init 47 = .ok (.dup, 1) := by decide +kernel
theorem dX5_init_48 : decode cX5_init 48 = .ok (.bipush 10, 2) := by decide +kernel
theorem dX5_init_50 : decode cX5_init 50 = .ok (.invokespecial 11, 3) := by decide +kernel
theorem dX5_init_53 : decode cX5_init 53 = .ok (.putfield 26, 3) := by decide +kernel
theorem dX5_init_56 : decode cX5_init 56 = .ok (.aload_n 0, 1) := by decide +kernel
theorem dX5_init_57 : decode cX5_init 57 = .ok (.new 9, 3) := by decide +kernel
theorem dX5_init_60 : decode cX5_init 60 = .ok (.dup, 1) := by decide +kernel
theorem dX5_init_61 : decode cX5_init 61 = .ok (.bipush 10, 2) := by decide +kernel
theorem dX5_init_63 : decode cX5_init 63 = .ok (.invokespecial 11, 3) := by decide +kernel
theorem dX5_init_66 : decode cX5_init 66 = .ok (.putfield 29, 3) := by decide +kernel
theorem dX5_init_69 : decode cX5_init 69 = .ok (.return_, 1) := by decide +kernel
theorem dX5_copy_0 : decode cX5_copy 0 = .ok (.aload_n 0, 1) := by decide +kernel
theorem dX5_copy_1 : decode cX5_copy 1 = .ok (.getfield 14, 3) := by decide +kernel
theorem dX5_copy_4 : decode cX5_copy 4 = .ok (.aload_n 1, 1) := by decide +kernel
theorem dX5_copy_5 : decode cX5_copy 5 = .ok (.getfield 14, 3) := by decide +kernel
theorem dX5_copy_8 : decode cX5_copy 8 = .ok (.invokevirtual 32, 3) := by decide +kernel
theorem dX5_copy_11 : decode cX5_copy 11 = .ok (.aload_n 0, 1) := by decide +kernel
theorem dX5_copy_12 : decode cX5_copy 12 = .ok (.getfield 20, 3) := by decide +kernel
theorem dX5_copy_15 : decode cX5_copy 15 = .ok (.aload_n 1, 1) := by decide +kernel
theorem dX5_copy_16 : decode cX5_copy 16 = .ok (.getfield 20, 3) := by decide +kernel
theorem dX5_copy_19 : decode cX5_copy 19 = .ok (.invokevirtual 32, 3) := by decide +kernel
theorem dX5_copy_22 : decode cX5_copy 22 = .ok (.aload_n 0, 1) := by decide +kernel
theorem dX5_copy_23 : decode cX5_copy 23 = .ok (.getfield 23, 3) := by decide +kernel
theorem dX5_copy_26 : decode cX5_copy 26 = .ok (.aload_n 1, 1) := by decide +kernel
theorem dX5_copy_27 : decode cX5_copy 27 = .ok (.getfield 23, 3) := by decide +kernel
theorem dX5_copy_30 : decode cX5_copy 30 = .ok (.invokevirtual 32, 3) := by decide +kernel
theorem dX5_copy_33 : decode cX5_copy 33 = .ok (.aload_n 0, 1) := by decide +kernel
theorem dX5_copy_34 : decode cX5_copy 34 = .ok (.getfield 26, 3) := by decide +kernel
theorem dX5_copy_37 : decode cX5_copy 37 = .ok (.aload_n 1, 1) := by decide +kernel
theorem dX5_copy_38 : decode cX5_copy 38 = .ok (.getfield 26, 3) := by decide +kernel
theorem dX5_copy_41 : decode cX5_copy 41 = .ok (.invokevirtual 32, 3) := by decide +kernel
theorem dX5_copy_44 : decode cX5_copy 44 = .ok (.aload_n 0, 1) := by decide +kernel
theorem dX5_copy_45 : decode cX5_copy 45 = .ok (.getfield 29, 3) := by decide +kernel
theorem dX5_copy_48 : decode cX5_copy 48 = .ok (.aload_n 1, 1) := by decide +kernel
theorem dX5_copy_49 : decode cX5_copy 49 = .ok (.getfield 29, 3) := by decide +kernel
theorem dX5_copy_52 : decode cX5_copy 52 = .ok (.invokevirtual 32, 3) := by decide +kernel
theorem dX5_copy_55 : decode cX5_copy 55 = .ok (.aload_n 0, 1) := by decide +kernel
theorem dX5_copy_56 : decode cX5_copy 56 = .ok (.aload_n 1, 1) := by decide +kernel
theorem dX5_copy_57 : decode cX5_copy 57 = .ok (.getfield 36, 3) := by decide +kernel
theorem dX5_copy_60 : decode cX5_copy 60 = .ok (.putfield 36, 3) := by decide +kernel
theorem dX5_copy_63 : decode cX5_copy 63 = .ok (.return_, 1) := by decide +kernel
theorem dX5_clear_0 : decode cX5_clear 0 = .ok (.aload_n 0, 1) := by decide +kernel
theorem dX5_clear_1 : decode cX5_clear 1 = .ok (.getfield 26, 3) := by decide +kernel
theorem dX5_clear_4 : decode cX5_clear 4 = .ok (.invokevirtual 40, 3) := by decide +kernel
theorem dX5_clear_7 : decode cX5_clear 7 = .ok (.aload_n 0, 1) := by decide +kernel
theorem dX5_clear_8 : decode cX5_clear 8 = .ok (.getfield 29, 3) := by decide +kernel
theorem dX5_clear_11 : decode cX5_clear 11 = .ok (.invokevirtual 40, 3) := by decide +kernel
theorem dX5_clear_14 : decode cX5_clear 14 = .ok (.aload_n 0, 1) := by decide +kernel
theorem dX5_clear_15 : decode cX5_clear 15 = .ok (.iconst 0, 1) := by decide +kernel
theorem dX5_clear_16 : decode cX5_clear 16 = .ok (.putfield 36, 3) := by decide +kernel
theorem dX5_clear_19 : decode cX5_clear 19 = .ok (.return_, 1) := by decide +kernel
theorem dX5_hasRange_0 : decode cX5_hasRange 0 = .ok (.iload_n 1, 1) := by decide +kernel
theorem dX5_hasRange_1 : decode cX5_hasRange 1 = .ok (.ifCond .lt 15, 3) := by decide +kernel
theorem dX5_hasRange_4 : decode cX5_hasRange 4 = .ok (.iload_n 1, 1) := by decide +kernel
theorem dX5_hasRange_5 : decode cX5_hasRange 5 = .ok (.aload_n 0, 1) := by decide +kernel
theorem dX5_hasRange_6 : decode cX5_hasRange 6 = .ok (.getfield 36, 3) := by decide +kernel
theorem dX5_hasRange_9 : decode cX5_hasRange 9 = .ok (.if_icmp .ge 7, 3) := by decide +kernel
theorem dX5_hasRange_12 : decode cX5_hasRange 12 = .ok (.iconst 1, 1) := by decide +kernel
theorem dX5_hasRange_13 : decode cX5_hasRange 13 = .ok (.goto 4, 3) := by decide +kernel
theorem dX5_hasRange_16 : decode cX5_hasRange 16 = .ok (.iconst 0, 1) := by decide +kernel
theorem dX5_hasRange_17 : decode cX5_hasRange 17 = .ok (.ireturn, 1) := by decide +kernel
theorem dX5_endOf_0 : decode cX5_endOf 0 = .ok (.aload_n 0, 1) := by decide +kernel
theorem dX5_endOf_1 : decode cX5_endOf 1 = .ok (.getfield 20, 3) := by decide +kernel
theorem dX5_endOf_4 : decode cX5_endOf 4 = .ok (.iload_n 1, 1) := by decide +kernel
theorem dX5_endOf_5 : decode cX5_endOf 5 = .ok (.invokevirtual 43, 3) := by decide +kernel
theorem dX5_endOf_8 : decode cX5_endOf 8 = .ok (.aload_n 0, 1) := by decide +kernel
theorem dX5_endOf_9 : decode cX5_endOf 9 = .ok (.getfield 23, 3) := by decide +kernel
theorem dX5_endOf_12 : decode cX5_endOf 12 = .ok (.iload_n 1, 1) := by decide +kernel
theorem dX5_endOf_13 : decode cX5_endOf 13 = .ok (.invokevirtual 43, 3) := by decide +kernel
theorem dX5_endOf_16 : decode cX5_endOf 16 = .ok (.iadd, 1) := by decide +kernel
theorem dX5_endOf_17 : decode cX5_endOf 17 = .ok (.ireturn, 1) := by decide +kernel
theorem dX5_metersOfAll_0 : decode cX5_metersOfAll 0 = .ok (.aload_n 0, 1) := by decide +kernel
theorem dX5_metersOfAll_1 : decode cX5_metersOfAll 1 = .ok (.getfield 29, 3) := by decide +kernel
theorem dX5_metersOfAll_4 : decode cX5_metersOfAll 4 = .ok (.invokevirtual 47, 3) := by decide +kernel
theorem dX5_metersOfAll_7 : decode cX5_metersOfAll 7 = .ok (.ireturn, 1) := by decide +kernel
theorem dX5_append_0 : decode cX5_append 0 = .ok (.iload_n 1, 1) := by decide +kernel
theorem dX5_append_1 : decode cX5_append 1 = .ok (.ifCond .lt 7, 3) := by decide +kernel
theorem dX5_append_4 : decode cX5_append 4 = .ok (.iload_n 3, 1) := by decide +kernel
theorem dX5_append_5 : decode cX5_append 5 = .ok (.ifCond .gt 4, 3) := by decide +kernel
theorem dX5_append_8 : decode cX5_append 8 = .ok (.return_, 1) := by decide +kernel
theorem dX5_append_9 : decode cX5_append 9 = .ok (.aload_n 0, 1) := by decide +kernel
theorem dX5_append_10 : decode cX5_append 10 = .ok (.getfield 36, 3) := by decide +kernel
theorem dX5_append_13 : decode cX5_append 13 = .ok (.iconst 1, 1) := by decide +kernel
theorem dX5_append_14 : decode cX5_append 14 = .ok (.isub, 1) := by decide +kernel
theorem dX5_append_15 : decode cX5_append 15 = .ok (.istore 4, 2) := by decide +kernel
theorem dX5_append_17 : decode cX5_append 17 = .ok (.aload_n 0, 1) := by decide +kernel
theorem dX5_append_18 : decode cX5_append 18 = .ok (.getfield 36, 3) := by decide +kernel
theorem dX5_append_21 : decode cX5_append 21 = .ok (.ifCond .le 52, 3) := by decide +kernel
theorem dX5_append_24 : decode cX5_append 24 = .ok (.aload_n 0, 1) := by decide +kernel
theorem dX5_append_25 : decode cX5_append 25 = .ok (.getfield 14, 3) := by decide +kernel
theorem dX5_append_28 : decode cX5_append 28 = .ok (.iload 4, 2) := by decide +kernel
theorem dX5_append_30 : decode cX5_append 30 = .ok (.invokevirtual 43, 3) := by decide +kernel
theorem dX5_append_33 : decode cX5_append 33 = .ok (.iload_n 1, 1) := by decide +kernel
theorem dX5_append_34 : decode cX5_append 34 = .ok (.if_icmp .ne 39, 3) := by decide +kernel
theorem dX5_append_37 : decode cX5_append 37 = .ok (.aload_n 0, 1) := by decide +kernel
theorem dX5_append_38 : decode cX5_append 38 = .ok (.getfield 20, 3) := by decide +kernel
theorem dX5_append_41 : decode cX5_append 41 = .ok (.iload 4, 2) := by decide +kernel
theorem dX5_append_43 : decode cX5_append 43 = .ok (.invokevirtual 43, 3) := by decide +kernel
theorem dX5_append_46 : decode cX5_append 46 = .ok (.aload_n 0, 1) := by decide +kernel
theorem dX5_append_47 : decode cX5_append 47 = .ok (.getfield 23, 3) := by decide +kernel
theorem dX5_append_50 : decode cX5_append 50 = .ok (.iload 4, 2) := by decide +kernel
theorem dX5_append_52 : decode cX5_append 52 = .ok (.invokevirtual 43, 3) := by decide +kernel
theorem dX5_append_55 : decode cX5_append 55 = .ok (.iadd, 1) := by decide +kernel
theorem dX5_append_56 : decode cX5_append 56 = .ok (.iload_n 2, 1) := by decide +kernel
theorem dX5_append_57 : decode cX5_append 57 = .ok (.if_icmp .ne 16, 3) := by decide +kernel
theorem dX5_append_60 : decode cX5_append 60 = .ok (.aload_n 0, 1) := by decide +kernel
theorem dX5_append_61 : decode cX5_append 61 = .ok (.getfield 23, 3) := by decide +kernel
theorem dX5_append_64 : decode cX5_append 64 = .ok (.iload 4, 2) := by decide +kernel
theorem dX5_append_66 : decode cX5_append 66 = .ok (.iload_n 3, 1) := by decide +kernel
theorem dX5_append_67 : decode cX5_append 67 = .ok (.invokevirtual 51, 3) := by decide +kernel
theorem dX5_append_70 : decode cX5_append 70 = .ok (.goto 71, 3) := by decide +kernel
theorem dX5_append_73 : decode cX5_append 73 = .ok (.aload_n 0, 1) := by decide +kernel
theorem dX5_append_74 : decode cX5_append 74 = .ok (.getfield 36, 3) := by decide +kernel
theorem dX5_append_77 : decode cX5_append 77 = .ok (.bipush 42, 2) := by decide +kernel
theorem dX5_append_79 : decode cX5_append 79 = .ok (.if_icmp .ge 61, 3) := by decide +kernel
theorem dX5_append_82 : decode cX5_append 82 = .ok (.aload_n 0, 1) := by decide +kernel
theorem dX5_append_83 : decode cX5_append 83 = .ok (.getfield 14, 3) := by decide +kernel
theorem dX5_append_86 : decode cX5_append 86 = .ok (.aload_n 0, 1) := by decide +kernel
theorem dX5_append_87 : decode cX5_append 87 = .ok (.getfield 36, 3) := by decide +kernel
theorem dX5_append_90 : decode cX5_append 90 = .ok (.iload_n 1, 1) := by decide +kernel
theorem dX5_append_91 : decode cX5_append 91 = .ok (.invokevirtual 55, 3) := by decide +kernel
theorem dX5_append_94 : decode cX5_append 94 = .ok (.aload_n 0, 1) := by decide +kernel
theorem dX5_append_95 : decode cX5_append 95 = .ok (.getfield 20, 3) := by decide +kernel
theorem dX5_append_98 : decode cX5_append 98 = .ok (.aload_n 0, 1) := by decide +kernel
theorem dX5_append_99 : decode cX5_append 99 = .ok (.getfield 36, 3) := by decide +kernel
theorem dX5_append_102 : decode cX5_append 102 = .ok (.iload_n 2, 1) := by decide +kernel
theorem dX5_append_103 : decode cX5_append 103 = .ok (.invokevirtual 55, 3) := by decide +kernel
theorem dX5_append_106 : decode cX5_append 106 = .ok (.aload_n 0, 1) := by decide +kernel
theorem dX5_append_107 : decode cX5_append 107 = .ok (.getfield 23, 3) := by decide +kernel
theorem dX5_append_110 : decode cX5_append 110 = .ok (.aload_n 0, 1) := by decide +kernel
theorem dX5_append_111 : decode cX5_append 111 = .ok (.getfield 36, 3) := by decide +kernel
theorem dX5_append_114 : decode cX5_append 114 = .ok (.iload_n 3, 1) := by decide +kernel
theorem dX5_append_115 : decode cX5_append 115 = .ok (.invokevirtual 55, 3) := by decide +kernel
theorem dX5_append_118 : decode cX5_append 118 = .ok (.aload_n 0, 1) := by decide +kernel
theorem dX5_append_119 : decode cX5_append 119 = .ok (.getfield 26, 3) := by decide +kernel
theorem dX5_append_122 : decode cX5_append 122 = .ok (.iload_n 1, 1) := by decide +kernel
theorem dX5_append_123 : decode cX5_append 123 = .ok (.iconst 1, 1) := by decide +kernel
theorem dX5_append_124 : decode cX5_append 124 = .ok (.invokevirtual 51, 3) := by decide +kernel
theorem dX5_append_127 : decode cX5_append 127 = .ok (.aload_n 0, 1) := by decide +kernel
theorem dX5_append_128 : decode cX5_append 128 = .ok (.dup, 1) := by decide +kernel
theorem dX5_append_129 : decode cX5_append 129 = .ok (.getfield 36, 3) := by decide +kernel
theorem dX5_append_132 : decode cX5_append 132 = .ok (.iconst 1, 1) := by decide +kernel
theorem dX5_append_133 : decode cX5_append 133 = .ok (.iadd, 1) := by decide +kernel
theorem dX5_append_134 : decode cX5_append 134 = .ok (.putfield 36, 3) := by decide +kernel
theorem dX5_append_137 : decode cX5_append 137 = .ok (.goto 4, 3) := by decide +kernel
theorem dX5_append_140 : decode cX5_append 140 = .ok (.return_, 1) := by decide +kernel
theorem dX5_append_141 : decode cX5_append 141 = .ok (.aload_n 0, 1) := by decide +kernel
theorem dX5_append_142 : decode cX5_append 142 = .ok (.getfield 29, 3) := by decide +kernel
theorem dX5_append_145 : decode cX5_append 145 = .ok (.iload_n 1, 1) := by decide +kernel
theorem dX5_append_146 : decode cX5_append 146 = .ok (.iload_n 3, 1) := by decide +kernel
theorem dX5_append_147 : decode cX5_append 147 = .ok (.invokevirtual 51, 3) := by decide +kernel
theorem dX5_append_150 : decode cX5_append 150 = .ok (.return_, 1) := by decide +kernel
theorem dX5_become_0 : decode cX5_become 0 = .ok (.iload_n 3, 1) := by decide +kernel
theorem dX5_become_1 : decode cX5_become 1 = .ok (.iload 4, 2) := by decide +kernel
theorem dX5_become_3 : decode cX5_become 3 = .ok (.iadd, 1) := by decide +kernel
theorem dX5_become_4 : decode cX5_become 4 = .ok (.istore 5, 2) := by decide +kernel
theorem dX5_become_6 : decode cX5_become 6 = .ok (.aload_n 0, 1) := by decide +kernel
theorem dX5_become_7 : decode cX5_become 7 = .ok (.invokevirtual 58, 3) := by decide +kernel
theorem dX5_become_10 : decode cX5_become 10 = .ok (.iconst 0, 1) := by decide +kernel
theorem dX5_become_11 : decode cX5_become 11 = .ok (.istore 6, 2) := by decide +kernel
theorem dX5_become_13 : decode cX5_become 13 = .ok (.iload 6, 2) := by decide +kernel
theorem dX5_become_15 : decode cX5_become 15 = .ok (.aload_n 1, 1) := by decide +kernel
theorem dX5_become_16 : decode cX5_become 16 = .ok (.getfield 36, 3) := by decide +kernel
theorem dX5_become_19 : decode cX5_become 19 = .ok (.if_icmp .ge 51, 3) := by decide +kernel
theorem dX5_become_22 : decode cX5_become 22 = .ok (.aload_n 0, 1) := by decide +kernel
theorem dX5_become_23 : decode cX5_become 23 = .ok (.aload_n 1, 1) := by decide +kernel
theorem dX5_become_24 : decode cX5_become 24 = .ok (.getfield 14, 3) := by decide +kernel
theorem dX5_become_27 : decode cX5_become 27 = .ok (.iload 6, 2) := by decide +kernel
theorem dX5_become_29 : decode cX5_become 29 = .ok (.invokevirtual 43, 3) := by decide +kernel
theorem dX5_become_32 : decode cX5_become 32 = .ok (.aload_n 1, 1) := by decide +kernel
theorem dX5_become_33 : decode cX5_become 33 = .ok (.getfield 20, 3) := by decide +kernel
theorem dX5_become_36 : decode cX5_become 36 = .ok (.iload 6, 2) := by decide +kernel
theorem dX5_become_38 : decode cX5_become 38 = .ok (.invokevirtual 43, 3) := by decide +kernel
theorem dX5_become_41 : decode cX5_become 41 = .ok (.aload_n 1, 1) := by decide +kernel
theorem dX5_become_42 : decode cX5_become 42 = .ok (.iload 6, 2) := by decide +kernel
theorem dX5_become_44 : decode cX5_become 44 = .ok (.invokevirtual 59, 3) := by decide +kernel
theorem dX5_become_47 : decode cX5_become 47 = .ok (.iload_n 3, 1) := by decide +kernel
theorem dX5_become_48 : decode cX5_become 48 = .ok (.invokestatic 62, 3) := by decide +kernel
theorem dX5_become_51 : decode cX5_become 51 = .ok (.aload_n 1, 1) := by decide +kernel
theorem dX5_become_52 : decode cX5_become 52 = .ok (.getfield 20, 3) := by decide +kernel
theorem dX5_become_55 : decode cX5_become 55 = .ok (.iload 6, 2) := by decide +kernel
theorem dX5_become_57 : decode cX5_become 57 = .ok (.invokevirtual 43, 3) := by decide +kernel
theorem dX5_become_60 : decode cX5_become 60 = .ok (.isub, 1) := by decide +kernel
theorem dX5_become_61 : decode cX5_become 61 = .ok (.invokevirtual 68, 3) := by decide +kernel
theorem dX5_become_64 : decode cX5_become 64 = .ok (.iinc 6 1, 3) := by decide +kernel
theorem dX5_become_67 : decode cX5_become 67 = .ok (.goto (-54), 3) := by decide +kernel
theorem dX5_become_70 : decode cX5_become 70 = .ok (.aload_n 0, 1) := by decide +kernel
theorem dX5_become_71 : decode cX5_become 71 = .ok (.iload_n 2, 1) := by decide +kernel
theorem dX5_become_72 : decode cX5_become 72 = .ok (.iload_n 3, 1) := by decide +kernel
theorem dX5_become_73 : decode cX5_become 73 = .ok (.iload 4, 2) := by decide +kernel
theorem dX5_become_75 : decode cX5_become 75 = .ok (.invokevirtual 68, 3) := by decide +kernel
theorem dX5_become_78 : decode cX5_become 78 = .ok (.iconst 0, 1) := by decide +kernel
theorem dX5_become_79 : decode cX5_become 79 = .ok (.istore 6, 2) := by decide +kernel
theorem dX5_become_81 : decode cX5_become 81 = .ok (.iload 6, 2) := by decide +kernel
theorem dX5_become_83 : decode cX5_become 83 = .ok (.aload_n 1, 1) := by decide +kernel
theorem dX5_become_84 : decode cX5_become 84 = .ok (.getfield 36, 3) := by decide +kernel
theorem dX5_become_87 : decode cX5_become 87 = .ok (.if_icmp .ge 49, 3) := by decide +kernel
theorem dX5_become_90 : decode cX5_become 90 = .ok (.aload_n 1, 1) := by decide +kernel
theorem dX5_become_91 : decode cX5_become 91 = .ok (.getfield 20, 3) := by decide +kernel
theorem dX5_become_94 : decode cX5_become 94 = .ok (.iload 6, 2) := by decide +kernel
theorem dX5_become_96 : decode cX5_become 96 = .ok (.invokevirtual 43, 3) := by decide +kernel
theorem dX5_become_99 : decode cX5_become 99 = .ok (.iload 5, 2) := by decide +kernel
theorem dX5_become_101 : decode cX5_become 101 = .ok (.invokestatic 72, 3) := by decide +kernel
theorem dX5_become_104 : decode cX5_become 104 = .ok (.istore 7, 2) := by decide +kernel
theorem dX5_become_106 : decode cX5_become 106 = .ok (.aload_n 0, 1) := by decide +kernel
theorem dX5_become_107 : decode cX5_become 107 = .ok (.aload_n 1, 1) := by decide +kernel
theorem dX5_become_108 : decode cX5_become 108 = .ok (.getfield 14, 3) := by decide +kernel
theorem dX5_become_111 : decode cX5_become 111 = .ok (.iload 6, 2) := by decide +kernel
theorem dX5_become_113 : decode cX5_become 113 = .ok (.invokevirtual 43, 3) := by decide +kernel
theorem dX5_become_116 : decode cX5_become 116 = .ok (.iload 7, 2) := by decide +kernel
theorem dX5_become_118 : decode cX5_become 118 = .ok (.aload_n 1, 1) := by decide +kernel
theorem dX5_become_119 : decode cX5_become 119 = .ok (.iload 6, 2) := by decide +kernel
theorem dX5_become_121 : decode cX5_become 121 = .ok (.invokevirtual 59, 3) := by decide +kernel
theorem dX5_become_124 : decode cX5_become 124 = .ok (.iload 7, 2) := by decide +kernel
theorem dX5_become_126 : decode cX5_become 126 = .ok (.isub, 1) := by decide +kernel
theorem dX5_become_127 : decode cX5_become 127 = .ok (.invokevirtual 68, 3) := by decide +kernel
theorem dX5_become_130 : decode cX5_become 130 = .ok (.iinc 6 1, 3) := by decide +kernel
theorem dX5_become_133 : decode cX5_become 133 = .ok (.goto (-52), 3) := by decide +kernel
theorem dX5_become_136 : decode cX5_become 136 = .ok (.return_, 1) := by decide +kernel
theorem dX5_becomeInherited_0 : decode cX5_becomeInherited 0 = .ok (.aload_n 0, 1) := by decide +kernel
theorem dX5_becomeInherited_1 : decode cX5_becomeInherited 1 = .ok (.invokevirtual 58, 3) := by decide +kernel
theorem dX5_becomeInherited_4 : decode cX5_becomeInherited 4 = .ok (.iconst 0, 1) := by decide +kernel
theorem dX5_becomeInherited_5 : decode cX5_becomeInherited 5 = .ok (.istore 4, 2) := by decide +kernel
theorem dX5_becomeInherited_7 : decode cX5_becomeInherited 7 = .ok (.iload 4, 2) := by decide +kernel
theorem dX5_becomeInherited_9 : decode cX5_becomeInherited 9 = .ok (.aload_n 1, 1) := by decide +kernel
theorem dX5_becomeInherited_10 : decode cX5_becomeInherited 10 = .ok (.getfield 36, 3) := by decide +kernel
theorem dX5_becomeInherited_13 : decode cX5_becomeInherited 13 = .ok (.if_icmp .ge 54, 3) := by decide +kernel
theorem dX5_becomeInherited_16 : decode cX5_becomeInherited 16 = .ok (.aload_n 1, 1) := by decide +kernel
theorem dX5_becomeInherited_17 : decode cX5_becomeInherited 17 = .ok (.getfield 14, 3) := by decide +kernel
theorem dX5_becomeInherited_20 : decode cX5_becomeInherited 20 = .ok (.iload 4, 2) := by decide +kernel
theorem dX5_becomeInherited_22 : decode cX5_becomeInherited 22 = .ok (.invokevirtual 43, 3) := by decide +kernel
theorem dX5_becomeInherited_25 : decode cX5_becomeInherited 25 = .ok (.istore 5, 2) := by decide +kernel
theorem dX5_becomeInherited_27 : decode cX5_becomeInherited 27 = .ok (.aload_n 0, 1) := by decide +kernel
theorem dX5_becomeInherited_28 : decode cX5_becomeInherited 28 = .ok (.iload 5, 2) := by decide +kernel
theorem dX5_becomeInherited_30 : decode cX5_becomeInherited 30 = .ok (.iload_n 2, 1) := by decide +kernel
theorem dX5_becomeInherited_31 : decode cX5_becomeInherited 31 = .ok (.if_icmp .ne 7, 3) := by decide +kernel
theorem dX5_becomeInherited_34 : decode cX5_becomeInherited 34 = .ok (.iload_n 3, 1) := by decide +kernel
theorem dX5_becomeInherited_35 : decode cX5_becomeInherited 35 = .ok (.goto 5, 3) := by decide +kernel
theorem dX5_becomeInherited_38 : decode cX5_becomeInherited 38 = .ok (.iload 5, 2) := by decide +kernel
theorem dX5_becomeInherited_40 : decode cX5_becomeInherited 40 = .ok (.aload_n 1, 1) := by decide +kernel
theorem dX5_becomeInherited_41 : decode cX5_becomeInherited 41 = .ok (.getfield 20, 3) := by decide +kernel
theorem dX5_becomeInherited_44 : decode cX5_becomeInherited 44 = .ok (.iload 4, 2) := by decide +kernel
theorem dX5_becomeInherited_46 : decode cX5_becomeInherited 46 = .ok (.invokevirtual 43, 3) := by decide +kernel
theorem dX5_becomeInherited_49 : decode cX5_becomeInherited 49 = .ok (.aload_n 1, 1) := by decide +kernel
theorem dX5_becomeInherited_50 : decode cX5_becomeInherited 50 = .ok (.getfield 23, 3) := by decide +kernel
theorem dX5_becomeInherited_53 : decode cX5_becomeInherited 53 = .ok (.iload 4, 2) := by decide +kernel
theorem dX5_becomeInherited_55 : decode cX5_becomeInherited 55 = .ok (.invokevirtual 43, 3) := by decide +kernel
theorem dX5_becomeInherited_58 : decode cX5_becomeInherited 58 = .ok (.invokevirtual 68, 3) := by decide +kernel
theorem dX5_becomeInherited_61 : decode cX5_becomeInherited 61 = .ok (.iinc 4 1, 3) := by decide +kernel
theorem dX5_becomeInherited_64 : decode cX5_becomeInherited 64 = .ok (.goto (-57), 3) := by decide +kernel
theorem dX5_becomeInherited_67 : decode cX5_becomeInherited 67 = .ok (.return_, 1) := by decide +kernel
theorem dX5_remove_0 : decode cX5_remove 0 = .ok (.aload_n 0, 1) := by decide +kernel
theorem dX5_remove_1 : decode cX5_remove 1 = .ok (.iload_n 1, 1) := by decide +kernel
theorem dX5_remove_2 : decode cX5_remove 2 = .ok (.invokevirtual 75, 3) := by decide +kernel
theorem dX5_remove_5 : decode cX5_remove 5 = .ok (.ifCond .ne 4, 3) := by decide +kernel
theorem dX5_remove_8 : decode cX5_remove 8 = .ok (.return_, 1) := by decide +kernel
theorem dX5_remove_9 : decode cX5_remove 9 = .ok (.aload_n 0, 1) := by decide +kernel
theorem dX5_remove_10 : decode cX5_remove 10 = .ok (.getfield 26, 3) := by decide +kernel
theorem dX5_remove_13 : decode cX5_remove 13 = .ok (.aload_n 0, 1) := by decide +kernel
theorem dX5_remove_14 : decode cX5_remove 14 = .ok (.getfield 14, 3) := by decide +kernel
theorem dX5_remove_17 : decode cX5_remove 17 = .ok (.iload_n 1, 1) := by decide +kernel
theorem dX5_remove_18 : decode cX5_remove 18 = .ok (.invokevirtual 43, 3) := by decide +kernel
theorem dX5_remove_21 : decode cX5_remove 21 = .ok (.iconst (-1), 1) := by decide +kernel
theorem dX5_remove_22 : decode cX5_remove 22 = .ok (.invokevirtual 51, 3) := by decide +kernel
theorem dX5_remove_25 : decode cX5_remove 25 = .ok (.aload_n 0, 1) := by decide +kernel
theorem dX5_remove_26 : decode cX5_remove 26 = .ok (.getfield 29, 3) := by decide +kernel
theorem dX5_remove_29 : decode cX5_remove 29 = .ok (.aload_n 0, 1) := by decide +kernel
theorem dX5_remove_30 : decode cX5_remove 30 = .ok (.getfield 14, 3) := by decide +kernel
theorem dX5_remove_33 : decode cX5_remove 33 = .ok (.iload_n 1, 1) := by decide +kernel
theorem dX5_remove_34 : decode cX5_remove 34 = .ok (.invokevirtual 43, 3) := by decide +kernel
theorem dX5_remove_37 : decode cX5_remove 37 = .ok (.aload_n 0, 1) := by decide +kernel
theorem dX5_remove_38 : decode cX5_remove 38 = .ok (.getfield 23, 3) := by decide +kernel
theorem dX5_remove_41 : decode cX5_remove 41 = .ok (.iload_n 1, 1) := by decide +kernel
theorem dX5_remove_42 : decode cX5_remove 42 = .ok (.invokevirtual 43, 3) := by decide +kernel
theorem dX5_remove_45 : decode cX5_remove 45 = .ok (.ineg, 1) := by decide +kernel
theorem dX5_remove_46 : decode cX5_remove 46 = .ok (.invokevirtual 51, 3) := by decide +kernel
theorem dX5_remove_49 : decode cX5_remove 49 = .ok (.aload_n 0, 1) := by decide +kernel
theorem dX5_remove_50 : decode cX5_remove 50 = .ok (.dup, 1) := by decide +kernel
theorem dX5_remove_51 : decode cX5_remove 51 = .ok (.getfield 36, 3) := by decide +kernel
theorem dX5_remove_54 : decode cX5_remove 54 = .ok (.iconst 1, 1) := by decide +kernel
theorem dX5_remove_55 : decode cX5_remove 55 = .ok (.isub, 1) := by decide +kernel
theorem dX5_remove_56 : decode cX5_remove 56 = .ok (.putfield 36, 3) := by decide +kernel
theorem dX5_remove_59 : decode cX5_remove 59 = .ok (.iload_n 1, 1) := by decide +kernel
theorem dX5_remove_60 : decode cX5_remove 60 = .ok (.istore_n 2, 1) := by decide +kernel
theorem dX5_remove_61 : decode cX5_remove 61 = .ok (.iload_n 2, 1) := by decide +kernel
theorem dX5_remove_62 : decode cX5_remove 62 = .ok (.aload_n 0, 1) := by decide +kernel
theorem dX5_remove_63 : decode cX5_remove 63 = .ok (.getfield 36, 3) := by decide +kernel
theorem dX5_remove_66 : decode cX5_remove 66 = .ok (.if_icmp .ge 63, 3) := by decide +kernel
theorem dX5_remove_69 : decode cX5_remove 69 = .ok (.aload_n 0, 1) := by decide +kernel
theorem dX5_remove_70 : decode cX5_remove 70 = .ok (.getfield 14, 3) := by decide +kernel
theorem dX5_remove_73 : decode cX5_remove 73 = .ok (.iload_n 2, 1) := by decide +kernel
theorem dX5_remove_74 : decode cX5_remove 74 = .ok (.aload_n 0, 1) := by decide +kernel
theorem dX5_remove_75 : decode cX5_remove 75 = .ok (.getfield 14, 3) := by decide +kernel
theorem dX5_remove_78 : decode cX5_remove 78 = .ok (.iload_n 2, 1) := by decide +kernel
theorem dX5_remove_79 : decode cX5_remove 79 = .ok (.iconst 1, 1) := by decide +kernel
theorem dX5_remove_80 : decode cX5_remove 80 = .ok (.iadd, 1) := by decide +kernel
theorem dX5_remove_81 : decode cX5_remove 81 = .ok (.invokevirtual 43, 3) := by decide +kernel
theorem dX5_remove_84 : decode cX5_remove 84 = .ok (.invokevirtual 55, 3) := by decide +kernel
theorem dX5_remove_87 : decode cX5_remove 87 = .ok (.aload_n 0, 1) := by decide +kernel
theorem dX5_remove_88 : decode cX5_remove 88 = .ok (.getfield 20, 3) := by decide +kernel
theorem dX5_remove_91 : decode cX5_remove 91 = .ok (.iload_n 2, 1) := by decide +kernel
theorem dX5_remove_92 : decode cX5_remove 92 = .ok (.aload_n 0, 1) := by decide +kernel
theorem dX5_remove_93 : decode cX5_remove 93 = .ok (.getfield 20, 3) := by decide +kernel
theorem dX5_remove_96 : decode cX5_remove 96 = .ok (.iload_n 2, 1) := by decide +kernel
theorem dX5_remove_97 : decode cX5_remove 97 = .ok (.iconst 1, 1) := by decide +kernel
theorem dX5_remove_98 : decode cX5_remove 98 = .ok (.iadd, 1) := by decide +kernel
theorem dX5_remove_99 : decode cX5_remove 99 = .ok (.invokevirtual 43, 3) := by decide +kernel
theorem dX5_remove_102 : decode cX5_remove 102 = .ok (.invokevirtual 55, 3) := by decide +kernel
theorem dX5_remove_105 : decode cX5_remove 105 = .ok (.aload_n 0, 1) := by decide +kernel
theorem dX5_remove_106 : decode cX5_remove 106 = .ok (.getfield 23, 3) := by decide +kernel
theorem dX5_remove_109 : decode cX5_remove 109 = .ok (.iload_n 2, 1) := by decide +kernel
theorem dX5_remove_110 : decode cX5_remove 110 = .ok (.aload_n 0, 1) := by decide +kernel
theorem dX5_remove_111 : decode cX5_remove 111 = .ok (.getfield 23, 3) := by decide +kernel
theorem dX5_remove_114 : decode cX5_remove 114 = .ok (.iload_n 2, 1) := by decide +kernel
theorem dX5_remove_115 : decode cX5_remove 115 = .ok (.iconst 1, 1) := by decide +kernel
theorem dX5_remove_116 : decode cX5_remove 116 = .ok (.iadd, 1) := by decide +kernel
theorem dX5_remove_117 : decode cX5_remove 117 = .ok (.invokevirtual 43, 3) := by decide +kernel
theorem dX5_remove_120 : decode cX5_remove 120 = .ok (.invokevirtual 55, 3) := by decide +kernel
theorem dX5_remove_123 : decode cX5_remove 123 = .ok (.iinc 2 1, 3) := by decide +kernel
theorem dX5_remove_126 : decode cX5_remove 126 = .ok (.goto (-65), 3) := by decide +kernel
theorem dX5_remove_129 : decode cX5_remove 129 = .ok (.return_, 1) := by decide +kernel
theorem dX5_holderAt_0 : decode cX5_holderAt 0 = .ok (.iconst 0, 1) := by decide +kernel
theorem dX5_holderAt_1 : decode cX5_holderAt 1 = .ok (.istore_n 2, 1) := by decide +kernel
theorem dX5_holderAt_2 : decode cX5_holderAt 2 = .ok (.iload_n 2, 1) := by decide +kernel
theorem dX5_holderAt_3 : decode cX5_holderAt 3 = .ok (.aload_n 0, 1) := by decide +kernel
theorem dX5_holderAt_4 : decode cX5_holderAt 4 = .ok (.getfield 36, 3) := by decide +kernel
theorem dX5_holderAt_7 : decode cX5_holderAt 7 = .ok (.if_icmp .ge 39, 3) := by decide +kernel
theorem dX5_holderAt_10 : decode cX5_holderAt 10 = .ok (.iload_n 1, 1) := by decide +kernel
theorem dX5_holderAt_11 : decode cX5_holderAt 11 = .ok (.aload_n 0, 1) := by decide +kernel
theorem dX5_holderAt_12 : decode cX5_holderAt 12 = .ok (.getfield 20, 3) := by decide +kernel
theorem dX5_holderAt_15 : decode cX5_holderAt 15 = .ok (.iload_n 2, 1) := by decide +kernel
theorem dX5_holderAt_16 : decode cX5_holderAt 16 = .ok (.invokevirtual 43, 3) := by decide +kernel
theorem dX5_holderAt_19 : decode cX5_holderAt 19 = .ok (.if_icmp .lt 21, 3) := by decide +kernel
theorem dX5_holderAt_22 : decode cX5_holderAt 22 = .ok (.iload_n 1, 1) := by decide +kernel
theorem dX5_holderAt_23 : decode cX5_holderAt 23 = .ok (.aload_n 0, 1) := by decide +kernel
theorem dX5_holderAt_24 : decode cX5_holderAt 24 = .ok (.iload_n 2, 1) := by decide +kernel
theorem dX5_holderAt_25 : decode cX5_holderAt 25 = .ok (.invokevirtual 59, 3) := by decide +kernel
theorem dX5_holderAt_28 : decode cX5_holderAt 28 = .ok (.if_icmp .ge 12, 3) := by decide +kernel
theorem dX5_holderAt_31 : decode cX5_holderAt 31 = .ok (.aload_n 0, 1) := by decide +kernel
theorem dX5_holderAt_32 : decode cX5_holderAt 32 = .ok (.getfield 14, 3) := by decide +kernel
theorem dX5_holderAt_35 : decode cX5_holderAt 35 = .ok (.iload_n 2, 1) := by decide +kernel
theorem dX5_holderAt_36 : decode cX5_holderAt 36 = .ok (.invokevirtual 43, 3) := by decide +kernel
theorem dX5_holderAt_39 : decode cX5_holderAt 39 = .ok (.ireturn, 1) := by decide +kernel
theorem dX5_holderAt_40 : decode cX5_holderAt 40 = .ok (.iinc 2 1, 3) := by decide +kernel
theorem dX5_holderAt_43 : decode cX5_holderAt 43 = .ok (.goto (-41), 3) := by decide +kernel
theorem dX5_holderAt_46 : decode cX5_holderAt 46 = .ok (.bipush (-6), 2) := by decide +kernel
theorem dX5_holderAt_48 : decode cX5_holderAt 48 = .ok (.ireturn, 1) := by decide +kernel
theorem dX5_longestOf_0 : decode cX5_longestOf 0 = .ok (.iconst 0, 1) := by decide +kernel
theorem dX5_longestOf_1 : decode cX5_longestOf 1 = .ok (.istore_n 2, 1) := by decide +kernel
theorem dX5_longestOf_2 : decode cX5_longestOf 2 = .ok (.iconst 0, 1) := by decide +kernel
theorem dX5_longestOf_3 : decode cX5_longestOf 3 = .ok (.istore_n 3, 1) := by decide +kernel
theorem dX5_longestOf_4 : decode cX5_longestOf 4 = .ok (.iload_n 3, 1) := by decide +kernel
theorem dX5_longestOf_5 : decode cX5_longestOf 5 = .ok (.aload_n 0, 1) := by decide +kernel
theorem dX5_longestOf_6 : decode cX5_longestOf 6 = .ok (.getfield 36, 3) := by decide +kernel
theorem dX5_longestOf_9 : decode cX5_longestOf 9 = .ok (.if_icmp .ge 34, 3) := by decide +kernel
theorem dX5_longestOf_12 : decode cX5_longestOf 12 = .ok (.aload_n 0, 1) := by decide +kernel
theorem dX5_longestOf_13 : decode cX5_longestOf 13 = .ok (.getfield 14, 3) := by decide +kernel
theorem dX5_longestOf_16 : decode cX5_longestOf 16 = .ok (.iload_n 3, 1) := by decide +kernel
theorem dX5_longestOf_17 : decode cX5_longestOf 17 = .ok (.invokevirtual 43, 3) := by decide +kernel
theorem dX5_longestOf_20 : decode cX5_longestOf 20 = .ok (.iload_n 1, 1) := by decide +kernel
theorem dX5_longestOf_21 : decode cX5_longestOf 21 = .ok (.if_icmp .ne 16, 3) := by decide +kernel
theorem dX5_longestOf_24 : decode cX5_longestOf 24 = .ok (.iload_n 2, 1) := by decide +kernel
theorem dX5_longestOf_25 : decode cX5_longestOf 25 = .ok (.aload_n 0, 1) := by decide +kernel
theorem dX5_longestOf_26 : decode cX5_longestOf 26 = .ok (.getfield 23, 3) := by decide +kernel
theorem dX5_longestOf_29 : decode cX5_longestOf 29 = .ok (.iload_n 3, 1) := by decide +kernel
theorem dX5_longestOf_30 : decode cX5_longestOf 30 = .ok (.invokevirtual 43, 3) := by decide +kernel
theorem dX5_longestOf_33 : decode cX5_longestOf 33 = .ok (.invokestatic 72, 3) := by decide +kernel
theorem dX5_longestOf_36 : decode cX5_longestOf 36 = .ok (.istore_n 2, 1) := by decide +kernel
theorem dX5_longestOf_37 : decode cX5_longestOf 37 = .ok (.iinc 3 1, 3) := by decide +kernel
theorem dX5_longestOf_40 : decode cX5_longestOf 40 = .ok (.goto (-36), 3) := by decide +kernel
theorem dX5_longestOf_43 : decode cX5_longestOf 43 = .ok (.iload_n 2, 1) := by decide +kernel
theorem dX5_longestOf_44 : decode cX5_longestOf 44 = .ok (.ireturn, 1) := by decide +kernel
theorem dX5_shortestOf_0 : decode cX5_shortestOf 0 = .ok (.bipush (-6), 2) := by decide +kernel
theorem dX5_shortestOf_2 : decode cX5_shortestOf 2 = .ok (.istore_n 2, 1) := by decide +kernel
theorem dX5_shortestOf_3 : decode cX5_shortestOf 3 = .ok (.iconst 0, 1) := by decide +kernel
theorem dX5_shortestOf_4 : decode cX5_shortestOf 4 = .ok (.istore_n 3, 1) := by decide +kernel
theorem dX5_shortestOf_5 : decode cX5_shortestOf 5 = .ok (.iload_n 3, 1) := by decide +kernel
theorem dX5_shortestOf_6 : decode cX5_shortestOf 6 = .ok (.aload_n 0, 1) := by decide +kernel
theorem dX5_shortestOf_7 : decode cX5_shortestOf 7 = .ok (.getfield 36, 3) := by decide +kernel
theorem dX5_shortestOf_10 : decode cX5_shortestOf 10 = .ok (.if_icmp .ge 48, 3) := by decide +kernel
theorem dX5_shortestOf_13 : decode cX5_shortestOf 13 = .ok (.aload_n 0, 1) := by decide +kernel
theorem dX5_shortestOf_14 : decode cX5_shortestOf 14 = .ok (.getfield 14, 3) := by decide +kernel
theorem dX5_shortestOf_17 : decode cX5_shortestOf 17 = .ok (.iload_n 3, 1) := by decide +kernel
theorem dX5_shortestOf_18 : decode cX5_shortestOf 18 = .ok (.invokevirtual 43, 3) := by decide +kernel
theorem dX5_shortestOf_21 : decode cX5_shortestOf 21 = .ok (.iload_n 1, 1) := by decide +kernel
theorem dX5_shortestOf_22 : decode cX5_shortestOf 22 = .ok (.if_icmp .ne 30, 3) := by decide +kernel
theorem dX5_shortestOf_25 : decode cX5_shortestOf 25 = .ok (.iload_n 2, 1) := by decide +kernel
theorem dX5_shortestOf_26 : decode cX5_shortestOf 26 = .ok (.bipush (-6), 2) := by decide +kernel
theorem dX5_shortestOf_28 : decode cX5_shortestOf 28 = .ok (.if_icmp .eq 22, 3) := by decide +kernel
theorem dX5_shortestOf_31 : decode cX5_shortestOf 31 = .ok (.aload_n 0, 1) := by decide +kernel
theorem dX5_shortestOf_32 : decode cX5_shortestOf 32 = .ok (.getfield 23, 3) := by decide +kernel
theorem dX5_shortestOf_35 : decode cX5_shortestOf 35 = .ok (.iload_n 3, 1) := by decide +kernel
theorem dX5_shortestOf_36 : decode cX5_shortestOf 36 = .ok (.invokevirtual 43, 3) := by decide +kernel
theorem dX5_shortestOf_39 : decode cX5_shortestOf 39 = .ok (.aload_n 0, 1) := by decide +kernel
theorem dX5_shortestOf_40 : decode cX5_shortestOf 40 = .ok (.getfield 23, 3) := by decide +kernel
theorem dX5_shortestOf_43 : decode cX5_shortestOf 43 = .ok (.iload_n 2, 1) := by decide +kernel
theorem dX5_shortestOf_44 : decode cX5_shortestOf 44 = .ok (.invokevirtual 43, 3) := by decide +kernel
theorem dX5_shortestOf_47 : decode cX5_shortestOf 47 = .ok (.if_icmp .gt 5, 3) := by decide +kernel
theorem dX5_shortestOf_50 : decode cX5_shortestOf 50 = .ok (.iload_n 3, 1) := by decide +kernel
theorem dX5_shortestOf_51 : decode cX5_shortestOf 51 = .ok (.istore_n 2, 1) := by decide +kernel
theorem dX5_shortestOf_52 : decode cX5_shortestOf 52 = .ok (.iinc 3 1, 3) := by decide +kernel
theorem dX5_shortestOf_55 : decode cX5_shortestOf 55 = .ok (.goto (-50), 3) := by decide +kernel
theorem dX5_shortestOf_58 : decode cX5_shortestOf 58 = .ok (.iload_n 2, 1) := by decide +kernel
theorem dX5_shortestOf_59 : decode cX5_shortestOf 59 = .ok (.ireturn, 1) := by decide +kernel
theorem dX5_hasShorter_0 : decode cX5_hasShorter 0 = .ok (.aload_n 0, 1) := by decide +kernel
theorem dX5_hasShorter_1 : decode cX5_hasShorter 1 = .ok (.iload_n 1, 1) := by decide +kernel
theorem dX5_hasShorter_2 : decode cX5_hasShorter 2 = .ok (.invokevirtual 79, 3) := by decide +kernel
theorem dX5_hasShorter_5 : decode cX5_hasShorter 5 = .ok (.istore_n 3, 1) := by decide +kernel
theorem dX5_hasShorter_6 : decode cX5_hasShorter 6 = .ok (.iload_n 3, 1) := by decide +kernel
theorem dX5_hasShorter_7 : decode cX5_hasShorter 7 = .ok (.bipush (-6), 2) := by decide +kernel
theorem dX5_hasShorter_9 : decode cX5_hasShorter 9 = .ok (.if_icmp .eq 19, 3) := by decide +kernel
theorem dX5_hasShorter_12 : decode cX5_hasShorter 12 = .ok (.aload_n 0, 1) := by decide +kernel
theorem dX5_hasShorter_13 : decode cX5_hasShorter 13 = .ok (.getfield 23, 3) := by decide +kernel
theorem dX5_hasShorter_16 : decode cX5_hasShorter 16 = .ok (.iload_n 3, 1) := by decide +kernel
theorem dX5_hasShorter_17 : decode cX5_hasShorter 17 = .ok (.invokevirtual 43, 3) := by decide +kernel
theorem dX5_hasShorter_20 : decode cX5_hasShorter 20 = .ok (.iload_n 2, 1) := by decide +kernel
theorem dX5_hasShorter_21 : decode cX5_hasShorter 21 = .ok (.if_icmp .ge 7, 3) := by decide +kernel
theorem dX5_hasShorter_24 : decode cX5_hasShorter 24 = .ok (.iconst 1, 1) := by decide +kernel
theorem dX5_hasShorter_25 : decode cX5_hasShorter 25 = .ok (.goto 4, 3) := by decide +kernel
theorem dX5_hasShorter_28 : decode cX5_hasShorter 28 = .ok (.iconst 0, 1) := by decide +kernel
theorem dX5_hasShorter_29 : decode cX5_hasShorter 29 = .ok (.ireturn, 1) := by decide +kernel
theorem dX5_overlap_0 : decode cX5_overlap 0 = .ok (.aload_n 0, 1) := by decide +kernel
theorem dX5_overlap_1 : decode cX5_overlap 1 = .ok (.getfield 20, 3) := by decide +kernel
theorem dX5_overlap_4 : decode cX5_overlap 4 = .ok (.iload_n 1, 1) := by decide +kernel
theorem dX5_overlap_5 : decode cX5_overlap 5 = .ok (.invokevirtual 43, 3) := by decide +kernel
theorem dX5_overlap_8 : decode cX5_overlap 8 = .ok (.istore 4, 2) := by decide +kernel
theorem dX5_overlap_10 : decode cX5_overlap 10 = .ok (.iload 4, 2) := by decide +kernel
theorem dX5_overlap_12 : decode cX5_overlap 12 = .ok (.aload_n 0, 1) := by decide +kernel
theorem dX5_overlap_13 : decode cX5_overlap 13 = .ok (.getfield 23, 3) := by decide +kernel
theorem dX5_overlap_16 : decode cX5_overlap 16 = .ok (.iload_n 1, 1) := by decide +kernel
theorem dX5_overlap_17 : decode cX5_overlap 17 = .ok (.invokevirtual 43, 3) := by decide +kernel
theorem dX5_overlap_20 : decode cX5_overlap 20 = .ok (.iadd, 1) := by decide +kernel
theorem dX5_overlap_21 : decode cX5_overlap 21 = .ok (.istore 5, 2) := by decide +kernel
theorem dX5_overlap_23 : decode cX5_overlap 23 = .ok (.iload 5, 2) := by decide +kernel
theorem dX5_overlap_25 : decode cX5_overlap 25 = .ok (.iload_n 2, 1) := by decide +kernel
theorem dX5_overlap_26 : decode cX5_overlap 26 = .ok (.iload_n 3, 1) := by decide +kernel
theorem dX5_overlap_27 : decode cX5_overlap 27 = .ok (.iadd, 1) := by decide +kernel
theorem dX5_overlap_28 : decode cX5_overlap 28 = .ok (.invokestatic 62, 3) := by decide +kernel
theorem dX5_overlap_31 : decode cX5_overlap 31 = .ok (.iload 4, 2) := by decide +kernel
theorem dX5_overlap_33 : decode cX5_overlap 33 = .ok (.iload_n 2, 1) := by decide +kernel
theorem dX5_overlap_34 : decode cX5_overlap 34 = .ok (.invokestatic 72, 3) := by decide +kernel
theorem dX5_overlap_37 : decode cX5_overlap 37 = .ok (.isub, 1) := by decide +kernel
theorem dX5_overlap_38 : decode cX5_overlap 38 = .ok (.iconst 0, 1) := by decide +kernel
theorem dX5_overlap_39 : decode cX5_overlap 39 = .ok (.invokestatic 72, 3) := by decide +kernel
theorem dX5_overlap_42 : decode cX5_overlap 42 = .ok (.ireturn, 1) := by decide +kernel
theorem dX5_metersWithin_0 : decode cX5_metersWithin 0 = .ok (.iconst 0, 1) := by decide +kernel
theorem dX5_metersWithin_1 : decode cX5_metersWithin 1 = .ok (.istore 4, 2) := by decide +kernel
theorem dX5_metersWithin_3 : decode cX5_metersWithin 3 = .ok (.iconst 0, 1) := by decide +kernel
theorem dX5_metersWithin_4 : decode cX5_metersWithin 4 = .ok (.istore 5, 2) := by decide +kernel
theorem dX5_metersWithin_6 : decode cX5_metersWithin 6 = .ok (.iload 5, 2) := by decide +kernel
theorem dX5_metersWithin_8 : decode cX5_metersWithin 8 = .ok (.aload_n 0, 1) := by decide +kernel
theorem dX5_metersWithin_9 : decode cX5_metersWithin 9 = .ok (.getfield 36, 3) := by decide +kernel
theorem dX5_metersWithin_12 : decode cX5_metersWithin 12 = .ok (.if_icmp .ge 35, 3) := by decide +kernel
theorem dX5_metersWithin_15 : decode cX5_metersWithin 15 = .ok (.aload_n 0, 1) := by decide +kernel
theorem dX5_metersWithin_16 : decode cX5_metersWithin 16 = .ok (.getfield 14, 3) := by decide +kernel
theorem dX5_metersWithin_19 : decode cX5_metersWithin 19 = .ok (.iload 5, 2) := by decide +kernel
theorem dX5_metersWithin_21 : decode cX5_metersWithin 21 = .ok (.invokevirtual 43, 3) := by decide +kernel
theorem dX5_metersWithin_24 : decode cX5_metersWithin 24 = .ok (.iload_n 1, 1) := by decide +kernel
theorem dX5_metersWithin_25 : decode cX5_metersWithin 25 = .ok (.if_icmp .ne 16, 3) := by decide +kernel
theorem dX5_metersWithin_28 : decode cX5_metersWithin 28 = .ok (.iload 4, 2) := by decide +kernel
theorem dX5_metersWithin_30 : decode cX5_metersWithin 30 = .ok (.aload_n 0, 1) := by decide +kernel
theorem dX5_metersWithin_31 : decode cX5_metersWithin 31 = .ok (.iload 5, 2) := by decide +kernel
theorem dX5_metersWithin_33 : decode cX5_metersWithin 33 = .ok (.iload_n 2, 1) := by decide +kernel
theorem dX5_metersWithin_34 : decode cX5_metersWithin 34 = .ok (.iload_n 3, 1) := by decide +kernel
theorem dX5_metersWithin_35 : decode cX5_metersWithin 35 = .ok (.invokevirtual 82, 3) := by decide +kernel
theorem dX5_metersWithin_38 : decode cX5_metersWithin 38 = .ok (.iadd, 1) := by decide +kernel
theorem dX5_metersWithin_39 : decode cX5_metersWithin 39 = .ok (.istore 4, 2) := by decide +kernel
