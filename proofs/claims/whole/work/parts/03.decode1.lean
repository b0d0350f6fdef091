theorem dX0_init_0 : decode cX0_init 0 = .ok (.aload_n 0, 1) := by decide +kernel
theorem dX0_init_1 : decode cX0_init 1 = .ok (.invokespecial 3, 3) := by decide +kernel
theorem dX0_init_4 : decode cX0_init 4 = .ok (.aload_n 0, 1) := by decide +kernel
theorem dX0_init_5 : decode cX0_init 5 = .ok (.new 9, 3) := by decide +kernel
theorem dX0_init_8 : decode cX0_init 8 = .ok (.dup, 1) := by decide +kernel
theorem dX0_init_9 : decode cX0_init 9 = .ok (.bipush 40, 2) := by decide +kernel
theorem dX0_init_11 : decode cX0_init 11 = .ok (.invokespecial 11, 3) := by decide +kernel
theorem dX0_init_14 : decode cX0_init 14 = .ok (.putfield 14, 3) := by decide +kernel
theorem dX0_init_17 : decode cX0_init 17 = .ok (.return_, 1) := by decide +kernel
theorem dX0_copy_0 : decode cX0_copy 0 = .ok (.aload_n 0, 1) := by decide +kernel
theorem dX0_copy_1 : decode cX0_copy 1 = .ok (.getfield 14, 3) := by decide +kernel
theorem dX0_copy_4 : decode cX0_copy 4 = .ok (.aload_n 1, 1) := by decide +kernel
theorem dX0_copy_5 : decode cX0_copy 5 = .ok (.getfield 14, 3) := by decide +kernel
theorem dX0_copy_8 : decode cX0_copy 8 = .ok (.invokevirtual 20, 3) := by decide +kernel
theorem dX0_copy_11 : decode cX0_copy 11 = .ok (.aload_n 0, 1) := by decide +kernel
theorem dX0_copy_12 : decode cX0_copy 12 = .ok (.aload_n 1, 1) := by decide +kernel
theorem dX0_copy_13 : decode cX0_copy 13 = .ok (.getfield 24, 3) := by decide +kernel
theorem dX0_copy_16 : decode cX0_copy 16 = .ok (.putfield 24, 3) := by decide +kernel
theorem dX0_copy_19 : decode cX0_copy 19 = .ok (.return_, 1) := by decide +kernel
theorem dX0_hasTransfer_0 : decode cX0_hasTransfer 0 = .ok (.iload_n 1, 1) := by decide +kernel
theorem dX0_hasTransfer_1 : decode cX0_hasTransfer 1 = .ok (.ifCond .lt 15, 3) := by decide +kernel
theorem dX0_hasTransfer_4 : decode cX0_hasTransfer 4 = .ok (.iload_n 1, 1) := by decide +kernel
theorem dX0_hasTransfer_5 : decode cX0_hasTransfer 5 = .ok (.aload_n 0, 1) := by decide +kernel
theorem dX0_hasTransfer_6 : decode cX0_hasTransfer 6 = .ok (.getfield 24, 3) := by decide +kernel
theorem dX0_hasTransfer_9 : decode cX0_hasTransfer 9 = .ok (.if_icmp .ge 7, 3) := by decide +kernel
theorem dX0_hasTransfer_12 : decode cX0_hasTransfer 12 = .ok (.iconst 1, 1) := by decide +kernel
theorem dX0_hasTransfer_13 : decode cX0_hasTransfer 13 = .ok (.goto 4, 3) := by decide +kernel
theorem dX0_hasTransfer_16 : decode cX0_hasTransfer 16 = .ok (.iconst 0, 1) := by decide +kernel
theorem dX0_hasTransfer_17 : decode cX0_hasTransfer 17 = .ok (.ireturn, 1) := by decide +kernel
theorem dX0_about_0 : decode cX0_about 0 = .ok (.aload_n 0, 1) := by decide +kernel
theorem dX0_about_1 : decode cX0_about 1 = .ok (.getfield 14, 3) := by decide +kernel
theorem dX0_about_4 : decode cX0_about 4 = .ok (.iload_n 1, 1) := by decide +kernel
theorem dX0_about_5 : decode cX0_about 5 = .ok (.iconst 5, 1) := by decide +kernel
theorem dX0_about_6 : decode cX0_about 6 = .ok (.imul, 1) := by decide +kernel
theorem dX0_about_7 : decode cX0_about 7 = .ok (.iload_n 2, 1) := by decide +kernel
theorem dX0_about_8 : decode cX0_about 8 = .ok (.iadd, 1) := by decide +kernel
theorem dX0_about_9 : decode cX0_about 9 = .ok (.invokevirtual 28, 3) := by decide +kernel
theorem dX0_about_12 : decode cX0_about 12 = .ok (.ireturn, 1) := by decide +kernel
theorem dX0_append_0 : decode cX0_append 0 = .ok (.aload_n 0, 1) := by decide +kernel
theorem dX0_append_1 : decode cX0_append 1 = .ok (.getfield 24, 3) := by decide +kernel
theorem dX0_append_4 : decode cX0_append 4 = .ok (.iconst 5, 1) := by decide +kernel
theorem dX0_append_5 : decode cX0_append 5 = .ok (.imul, 1) := by decide +kernel
theorem dX0_append_6 : decode cX0_append 6 = .ok (.istore 6, 2) := by decide +kernel
theorem dX0_append_8 : decode cX0_append 8 = .ok (.aload_n 0, 1) := by decide +kernel
theorem dX0_append_9 : decode cX0_append 9 = .ok (.getfield 14, 3) := by decide +kernel
theorem dX0_append_12 : decode cX0_append 12 = .ok (.iload 6, 2) := by decide +kernel
theorem dX0_append_14 : decode cX0_append 14 = .ok (.iconst 0, 1) := by decide +kernel
theorem dX0_append_15 : decode cX0_append 15 = .ok (.iadd, 1) := by decide +kernel
theorem dX0_append_16 : decode cX0_append 16 = .ok (.iload_n 1, 1) := by decide +kernel
theorem dX0_append_17 : decode cX0_append 17 = .ok (.invokevirtual 32, 3) := by decide +kernel
theorem dX0_append_20 : decode cX0_append 20 = .ok (.aload_n 0, 1) := by decide +kernel
theorem dX0_append_21 : decode cX0_append 21 = .ok (.getfield 14, 3) := by decide +kernel
theorem dX0_append_24 : decode cX0_append 24 = .ok (.iload 6, 2) := by decide +kernel
theorem dX0_append_26 : decode cX0_append 26 = .ok (.iconst 1, 1) := by decide +kernel
theorem dX0_append_27 : decode cX0_append 27 = .ok (.iadd, 1) := by decide +kernel
theorem dX0_append_28 : decode cX0_append 28 = .ok (.iload_n 2, 1) := by decide +kernel
theorem dX0_append_29 : decode cX0_append 29 = .ok (.invokevirtual 32, 3) := by decide +kernel
theorem dX0_append_32 : decode cX0_append 32 = .ok (.aload_n 0, 1) := by decide +kernel
theorem dX0_append_33 : decode cX0_append 33 = .ok (.getfield 14, 3) := by decide +kernel
theorem dX0_append_36 : decode cX0_append 36 = .ok (.iload 6, 2) := by decide +kernel
theorem dX0_append_38 : decode cX0_append 38 = .ok (.iconst 2, 1) := by decide +kernel
theorem dX0_append_39 : decode cX0_append 39 = .ok (.iadd, 1) := by decide +kernel
theorem dX0_append_40 : decode cX0_append 40 = .ok (.iload_n 3, 1) := by decide +kernel
theorem dX0_append_41 : decode cX0_append 41 = .ok (.invokevirtual 32, 3) := by decide +kernel
theorem dX0_append_44 : decode cX0_append 44 = .ok (.aload_n 0, 1) := by decide +kernel
theorem dX0_append_45 : decode cX0_append 45 = .ok (.getfield 14, 3) := by decide +kernel
theorem dX0_append_48 : decode cX0_append 48 = .ok (.iload 6, 2) := by decide +kernel
theorem dX0_append_50 : decode cX0_append 50 = .ok (.iconst 3, 1) := by decide +kernel
theorem dX0_append_51 : decode cX0_append 51 = .ok (.iadd, 1) := by decide +kernel
theorem dX0_append_52 : decode cX0_append 52 = .ok (.iload 4, 2) := by decide +kernel
theorem dX0_append_54 : decode cX0_append 54 = .ok (.invokevirtual 32, 3) := by decide +kernel
theorem dX0_append_57 : decode cX0_append 57 = .ok (.aload_n 0, 1) := by decide +kernel
theorem dX0_append_58 : decode cX0_append 58 = .ok (.getfield 14, 3) := by decide +kernel
theorem dX0_append_61 : decode cX0_append 61 = .ok (.iload 6, 2) := by decide +kernel
theorem dX0_append_63 : decode cX0_append 63 = .ok (.iconst 4, 1) := by decide +kernel
theorem dX0_append_64 : decode cX0_append 64 = .ok (.iadd, 1) := by decide +kernel
theorem dX0_append_65 : decode cX0_append 65 = .ok (.iload 5, 2) := by decide +kernel
theorem dX0_append_67 : decode cX0_append 67 = .ok (.invokevirtual 32, 3) := by decide +kernel
theorem dX0_append_70 : decode cX0_append 70 = .ok (.aload_n 0, 1) := by decide +kernel
theorem dX0_append_71 : decode cX0_append 71 = .ok (.dup, 1) := by decide +kernel
theorem dX0_append_72 : decode cX0_append 72 = .ok (.getfield 24, 3) := by decide +kernel
theorem dX0_append_75 : decode cX0_append 75 = .ok (.iconst 1, 1) := by decide +kernel
theorem dX0_append_76 : decode cX0_append 76 = .ok (.iadd, 1) := by decide +kernel
theorem dX0_append_77 : decode cX0_append 77 = .ok (.putfield 24, 3) := by decide +kernel
theorem dX0_append_80 : decode cX0_append 80 = .ok (.return_, 1) := by decide +kernel
theorem dX1_init_0 : decode cX1_init 0 = .ok (.aload_n 0, 1) := by decide +kernel
theorem dX1_init_1 : decode cX1_init 1 = .ok (.invokespecial 3, 3) := by decide +kernel
theorem dX1_init_4 : decode cX1_init 4 = .ok (.aload_n 0, 1) := by decide +kernel
theorem dX1_init_5 : decode cX1_init 5 = .ok (.bipush 7, 2) := by decide +kernel
theorem dX1_init_7 : decode cX1_init 7 = .ok (.anewarray 9, 3) := by decide +kernel
theorem dX1_init_10 : decode cX1_init 10 = .ok (.putfield 11, 3) := by decide +kernel
theorem dX1_init_13 : decode cX1_init 13 = .ok (.iconst 0, 1) := by decide +kernel
theorem dX1_init_14 : decode cX1_init 14 = .ok (.istore_n 1, 1) := by decide +kernel
theorem dX1_init_15 : decode cX1_init 15 = .ok (.iload_n 1, 1) := by decide +kernel
theorem dX1_init_16 : decode cX1_init 16 = .ok (.aload_n 0, 1) := by decide +kernel
theorem dX1_init_17 : decode cX1_init 17 = .ok (.getfield 11, 3) := by decide +kernel
theorem dX1_init_20 : decode cX1_init 20 = .ok (.arraylength, 1) := by decide +kernel
theorem dX1_init_21 : decode cX1_init 21 = .ok (.if_icmp .ge 22, 3) := by decide +kernel
theorem dX1_init_24 : decode cX1_init 24 = .ok (.aload_n 0, 1) := by decide +kernel
theorem dX1_init_25 : decode cX1_init 25 = .ok (.getfield 11, 3) := by decide +kernel
theorem dX1_init_28 : decode cX1_init 28 = .ok (.iload_n 1, 1) := by decide +kernel
theorem dX1_init_29 : decode cX1_init 29 = .ok (.new 9, 3) := by decide +kernel
theorem dX1_init_32 : decode cX1_init 32 = .ok (.dup, 1) := by decide +kernel
theorem dX1_init_33 : decode cX1_init 33 = .ok (.invokespecial 17, 3) := by decide +kernel
theorem dX1_init_36 : decode cX1_init 36 = .ok (.aastore, 1) := by decide +kernel
theorem dX1_init_37 : decode cX1_init 37 = .ok (.iinc 1 1, 3) := by decide +kernel
theorem dX1_init_40 : decode cX1_init 40 = .ok (.goto (-25), 3) := by decide +kernel
theorem dX1_init_43 : decode cX1_init 43 = .ok (.return_, 1) := by decide +kernel
theorem dX1_prepare_0 : decode cX1_prepare 0 = .ok (.aload_n 0, 1) := by decide +kernel
theorem dX1_prepare_1 : decode cX1_prepare 1 = .ok (.getfield 18, 3) := by decide +kernel
theorem dX1_prepare_4 : decode cX1_prepare 4 = .ok (.ifCond .lt 27, 3) := by decide +kernel
theorem dX1_prepare_7 : decode cX1_prepare 7 = .ok (.aload_n 0, 1) := by decide +kernel
theorem dX1_prepare_8 : decode cX1_prepare 8 = .ok (.getfield 18, 3) := by decide +kernel
theorem dX1_prepare_11 : decode cX1_prepare 11 = .ok (.aload_n 0, 1) := by decide +kernel
theorem dX1_prepare_12 : decode cX1_prepare 12 = .ok (.getfield 11, 3) := by decide +kernel
theorem dX1_prepare_15 : decode cX1_prepare 15 = .ok (.arraylength, 1) := by decide +kernel
theorem dX1_prepare_16 : decode cX1_prepare 16 = .ok (.if_icmp .ge 15, 3) := by decide +kernel
theorem dX1_prepare_19 : decode cX1_prepare 19 = .ok (.aload_n 0, 1) := by decide +kernel
theorem dX1_prepare_20 : decode cX1_prepare 20 = .ok (.getfield 11, 3) := by decide +kernel
theorem dX1_prepare_23 : decode cX1_prepare 23 = .ok (.aload_n 0, 1) := by decide +kernel
theorem dX1_prepare_24 : decode cX1_prepare 24 = .ok (.getfield 18, 3) := by decide +kernel
theorem dX1_prepare_27 : decode cX1_prepare 27 = .ok (.aaload, 1) := by decide +kernel
theorem dX1_prepare_28 : decode cX1_prepare 28 = .ok (.goto 4, 3) := by decide +kernel
theorem dX1_prepare_31 : decode cX1_prepare 31 = .ok (.aconst_null, 1) := by decide +kernel
theorem dX1_prepare_32 : decode cX1_prepare 32 = .ok (.astore_n 2, 1) := by decide +kernel
theorem dX1_prepare_33 : decode cX1_prepare 33 = .ok (.aload_n 2, 1) := by decide +kernel
theorem dX1_prepare_34 : decode cX1_prepare 34 = .ok (.ifnull 8, 3) := by decide +kernel
theorem dX1_prepare_37 : decode cX1_prepare 37 = .ok (.aload_n 2, 1) := by decide +kernel
theorem dX1_prepare_38 : decode cX1_prepare 38 = .ok (.aload_n 1, 1) := by decide +kernel
theorem dX1_prepare_39 : decode cX1_prepare 39 = .ok (.invokevirtual 22, 3) := by decide +kernel
theorem dX1_prepare_42 : decode cX1_prepare 42 = .ok (.return_, 1) := by decide +kernel
theorem dX1_finish_0 : decode cX1_finish 0 = .ok (.iload_n 1, 1) := by decide +kernel
theorem dX1_finish_1 : decode cX1_finish 1 = .ok (.ifCond .ge 5, 3) := by decide +kernel
theorem dX1_finish_4 : decode cX1_finish 4 = .ok (.iload_n 1, 1) := by decide +kernel
theorem dX1_finish_5 : decode cX1_finish 5 = .ok (.ireturn, 1) := by decide +kernel
theorem dX1_finish_6 : decode cX1_finish 6 = .ok (.aload_n 0, 1) := by decide +kernel
theorem dX1_finish_7 : decode cX1_finish 7 = .ok (.getfield 18, 3) := by decide +kernel
theorem dX1_finish_10 : decode cX1_finish 10 = .ok (.bipush 6, 2) := by decide +kernel
theorem dX1_finish_12 : decode cX1_finish 12 = .ok (.if_icmp .ge 16, 3) := by decide +kernel
theorem dX1_finish_15 : decode cX1_finish 15 = .ok (.aload_n 0, 1) := by decide +kernel
theorem dX1_finish_16 : decode cX1_finish 16 = .ok (.dup, 1) := by decide +kernel
theorem dX1_finish_17 : decode cX1_finish 17 = .ok (.getfield 18, 3) := by decide +kernel
theorem dX1_finish_20 : decode cX1_finish 20 = .ok (.iconst 1, 1) := by decide +kernel
theorem dX1_finish_21 : decode cX1_finish 21 = .ok (.iadd, 1) := by decide +kernel
theorem dX1_finish_22 : decode cX1_finish 22 = .ok (.putfield 18, 3) := by decide +kernel
theorem dX1_finish_25 : decode cX1_finish 25 = .ok (.goto 7, 3) := by decide +kernel
theorem dX1_finish_28 : decode cX1_finish 28 = .ok (.aload_n 0, 1) := by decide +kernel
theorem dX1_finish_29 : decode cX1_finish 29 = .ok (.invokevirtual 26, 3) := by decide +kernel
theorem dX1_finish_32 : decode cX1_finish 32 = .ok (.iload_n 1, 1) := by decide +kernel
theorem dX1_finish_33 : decode cX1_finish 33 = .ok (.ireturn, 1) := by decide +kernel
theorem dX1_dropOldest_0 : decode cX1_dropOldest 0 = .ok (.aload_n 0, 1) := by decide +kernel
theorem dX1_dropOldest_1 : decode cX1_dropOldest 1 = .ok (.getfield 11, 3) := by decide +kernel
theorem dX1_dropOldest_4 : decode cX1_dropOldest 4 = .ok (.iconst 0, 1) := by decide +kernel
theorem dX1_dropOldest_5 : decode cX1_dropOldest 5 = .ok (.aaload, 1) := by decide +kernel
theorem dX1_dropOldest_6 : decode cX1_dropOldest 6 = .ok (.astore_n 1, 1) := by decide +kernel
theorem dX1_dropOldest_7 : decode cX1_dropOldest 7 = .ok (.iconst 1, 1) := by decide +kernel
theorem dX1_dropOldest_8 : decode cX1_dropOldest 8 = .ok (.istore_n 2, 1) := by decide +kernel
theorem dX1_dropOldest_9 : decode cX1_dropOldest 9 = .ok (.iload_n 2, 1) := by decide +kernel
theorem dX1_dropOldest_10 : decode cX1_dropOldest 10 = .ok (.aload_n 0, 1) := by decide +kernel
theorem dX1_dropOldest_11 : decode cX1_dropOldest 11 = .ok (.getfield 11, 3) := by decide +kernel
theorem dX1_dropOldest_14 : decode cX1_dropOldest 14 = .ok (.arraylength, 1) := by decide +kernel
theorem dX1_dropOldest_15 : decode cX1_dropOldest 15 = .ok (.if_icmp .ge 23, 3) := by decide +kernel
theorem dX1_dropOldest_18 : decode cX1_dropOldest 18 = .ok (.aload_n 0, 1) := by decide +kernel
theorem dX1_dropOldest_19 : decode cX1_dropOldest 19 = .ok (.getfield 11, 3) := by decide +kernel
theorem dX1_dropOldest_22 : decode cX1_dropOldest 22 = .ok (.iload_n 2, 1) := by decide +kernel
theorem dX1_dropOldest_23 : decode cX1_dropOldest 23 = .ok (.iconst 1, 1) := by decide +kernel
theorem dX1_dropOldest_24 : decode cX1_dropOldest 24 = .ok (.isub, 1) := by decide +kernel
theorem dX1_dropOldest_25 : decode cX1_dropOldest 25 = .ok (.aload_n 0, 1) := by decide +kernel
theorem dX1_dropOldest_26 : decode cX1_dropOldest 26 = .ok (.getfield 11, 3) := by decide +kernel
theorem dX1_dropOldest_29 : decode cX1_dropOldest 29 = .ok (.iload_n 2, 1) := by decide +kernel
theorem dX1_dropOldest_30 : decode cX1_dropOldest 30 = .ok (.aaload, 1) := by decide +kernel
theorem dX1_dropOldest_31 : decode cX1_dropOldest 31 = .ok (.aastore, 1) := by decide +kernel
theorem dX1_dropOldest_32 : decode cX1_dropOldest 32 = .ok (.iinc 2 1, 3) := by decide +kernel
theorem dX1_dropOldest_35 : decode cX1_dropOldest 35 = .ok (.goto (-26), 3) := by decide +kernel
theorem dX1_dropOldest_38 : decode cX1_dropOldest 38 = .ok (.aload_n 0, 1) := by decide +kernel
theorem dX1_dropOldest_39 : decode cX1_dropOldest 39 = .ok (.getfield 11, 3) := by decide +kernel
theorem dX1_dropOldest_42 : decode cX1_dropOldest 42 = .ok (.bipush 6, 2) := by decide +kernel
theorem dX1_dropOldest_44 : decode cX1_dropOldest 44 = .ok (.aload_n 1, 1) := by decide +kernel
theorem dX1_dropOldest_45 : decode cX1_dropOldest 45 = .ok (.aastore, 1) := by decide +kernel
theorem dX1_dropOldest_46 : decode cX1_dropOldest 46 = .ok (.return_, 1) := by decide +kernel
theorem dX1_takeBack_0 : decode cX1_takeBack 0 = .ok (.aload_n 0, 1) := by decide +kernel
theorem dX1_takeBack_1 : decode cX1_takeBack 1 = .ok (.getfield 18, 3) := by decide +kernel
theorem dX1_takeBack_4 : decode cX1_takeBack 4 = .ok (.ifCond .le 29, 3) := by decide +kernel
theorem dX1_takeBack_7 : decode cX1_takeBack 7 = .ok (.aload_n 0, 1) := by decide +kernel
theorem dX1_takeBack_8 : decode cX1_takeBack 8 = .ok (.getfield 18, 3) := by decide +kernel
theorem dX1_takeBack_11 : decode cX1_takeBack 11 = .ok (.aload_n 0, 1) := by decide +kernel
theorem dX1_takeBack_12 : decode cX1_takeBack 12 = .ok (.getfield 11, 3) := by decide +kernel
theorem dX1_takeBack_15 : decode cX1_takeBack 15 = .ok (.arraylength, 1) := by decide +kernel
theorem dX1_takeBack_16 : decode cX1_takeBack 16 = .ok (.if_icmp .gt 17, 3) := by decide +kernel
theorem dX1_takeBack_19 : decode cX1_takeBack 19 = .ok (.aload_n 0, 1) := by decide +kernel
theorem dX1_takeBack_20 : decode cX1_takeBack 20 = .ok (.getfield 11, 3) := by decide +kernel
theorem dX1_takeBack_23 : decode cX1_takeBack 23 = .ok (.aload_n 0, 1) := by decide +kernel
theorem dX1_takeBack_24 : decode cX1_takeBack 24 = .ok (.getfield 18, 3) := by decide +kernel
theorem dX1_takeBack_27 : decode cX1_takeBack 27 = .ok (.iconst 1, 1) := by decide +kernel
theorem dX1_takeBack_28 : decode cX1_takeBack 28 = .ok (.isub, 1) := by decide +kernel
theorem dX1_takeBack_29 : decode cX1_takeBack 29 = .ok (.aaload, 1) := by decide +kernel
theorem dX1_takeBack_30 : decode cX1_takeBack 30 = .ok (.goto 4, 3) := by decide +kernel
theorem dX1_takeBack_33 : decode cX1_takeBack 33 = .ok (.aconst_null, 1) := by decide +kernel
theorem dX1_takeBack_34 : decode cX1_takeBack 34 = .ok (.astore_n 2, 1) := by decide +kernel
theorem dX1_takeBack_35 : decode cX1_takeBack 35 = .ok (.aload_n 2, 1) := by decide +kernel
theorem dX1_takeBack_36 : decode cX1_takeBack 36 = .ok (.ifnonnull 5, 3) := by decide +kernel
theorem dX1_takeBack_39 : decode cX1_takeBack 39 = .ok (.iconst 0, 1) := by decide +kernel
theorem dX1_takeBack_40 : decode cX1_takeBack 40 = .ok (.ireturn, 1) := by decide +kernel
theorem dX1_takeBack_41 : decode cX1_takeBack 41 = .ok (.aload_n 1, 1) := by decide +kernel
theorem dX1_takeBack_42 : decode cX1_takeBack 42 = .ok (.aload_n 2, 1) := by decide +kernel
theorem dX1_takeBack_43 : decode cX1_takeBack 43 = .ok (.invokevirtual 22, 3) := by decide +kernel
theorem dX1_takeBack_46 : decode cX1_takeBack 46 = .ok (.aload_n 0, 1) := by decide +kernel
theorem dX1_takeBack_47 : decode cX1_takeBack 47 = .ok (.dup, 1) := by decide +kernel
theorem dX1_takeBack_48 : decode cX1_takeBack 48 = .ok (.getfield 18, 3) := by decide +kernel
theorem dX1_takeBack_51 : decode cX1_takeBack 51 = .ok (.iconst 1, 1) := by decide +kernel
theorem dX1_takeBack_52 : decode cX1_takeBack 52 = .ok (.isub, 1) := by decide +kernel
theorem dX1_takeBack_53 : decode cX1_takeBack 53 = .ok (.putfield 18, 3) := by decide +kernel
theorem dX1_takeBack_56 : decode cX1_takeBack 56 = .ok (.iconst 1, 1) := by decide +kernel
theorem dX1_takeBack_57 : decode cX1_takeBack 57 = .ok (.ireturn, 1) := by decide +kernel
theorem dX2_init_0 : decode cX2_init 0 = .ok (.aload_n 0, 1) := by decide +kernel
theorem dX2_init_1 : decode cX2_init 1 = .ok (.invokespecial 3, 3) := by decide +kernel
theorem dX2_init_4 : decode cX2_init 4 = .ok (.aload_n 0, 1) := by decide +kernel
theorem dX2_init_5 : decode cX2_init 5 = .ok (.bipush 80, 2) := by decide +kernel
theorem dX2_init_7 : decode cX2_init 7 = .ok (.newarray .char, 2) := by decide +kernel
theorem dX2_init_9 : decode cX2_init 9 = .ok (.putfield 9, 3) := by decide +kernel
theorem dX2_init_12 : decode cX2_init 12 = .ok (.return_, 1) := by decide +kernel
theorem dX2_signsIn_0 : decode cX2_signsIn 0 = .ok (.iconst 0, 1) := by decide +kernel
theorem dX2_signsIn_1 : decode cX2_signsIn 1 = .ok (.istore_n 2, 1) := by decide +kernel
theorem dX2_signsIn_2 : decode cX2_signsIn 2 = .ok (.lload_n 0, 1) := by decide +kernel
theorem dX2_signsIn_3 : decode cX2_signsIn 3 = .ok (.lstore_n 3, 1) := by decide +kernel
theorem dX2_signsIn_4 : decode cX2_signsIn 4 = .ok (.lload_n 3, 1) := by decide +kernel
theorem dX2_signsIn_5 : decode cX2_signsIn 5 = .ok (.lconst 0, 1) := by decide +kernel
theorem dX2_signsIn_6 : decode cX2_signsIn 6 = .ok (.lcmp, 1) := by decide +kernel
theorem dX2_signsIn_7 : decode cX2_signsIn 7 = .ok (.ifCond .eq 47, 3) := by decide +kernel
theorem dX2_signsIn_10 : decode cX2_signsIn 10 = .ok (.iload_n 2, 1) := by decide +kernel
theorem dX2_signsIn_11 : decode cX2_signsIn 11 = .ok (.bipush 8, 2) := by decide +kernel
theorem dX2_signsIn_13 : decode cX2_signsIn 13 = .ok (.if_icmp .ge 41, 3) := by decide +kernel
theorem dX2_signsIn_16 : decode cX2_signsIn 16 = .ok (.lload_n 3, 1) := by decide +kernel
theorem dX2_signsIn_17 : decode cX2_signsIn 17 = .ok (.ldc2_w 15, 3) := by decide +kernel
theorem dX2_signsIn_20 : decode cX2_signsIn 20 = .ok (.land, 1) := by decide +kernel
theorem dX2_signsIn_21 : decode cX2_signsIn 21 = .ok (.lstore 5, 2) := by decide +kernel
theorem dX2_signsIn_23 : decode cX2_signsIn 23 = .ok (.lload 5, 2) := by decide +kernel
theorem dX2_signsIn_25 : decode cX2_signsIn 25 = .ok (.ldc2_w 17, 3) := by decide +kernel
theorem dX2_signsIn_28 : decode cX2_signsIn 28 = .ok (.lcmp, 1) := by decide +kernel
theorem dX2_signsIn_29 : decode cX2_signsIn 29 = .ok (.ifCond .lt 12, 3) := by decide +kernel
theorem dX2_signsIn_32 : decode cX2_signsIn 32 = .ok (.lload 5, 2) := by decide +kernel
theorem dX2_signsIn_34 : decode cX2_signsIn 34 = .ok (.ldc2_w 19, 3) := by decide +kernel
theorem dX2_signsIn_37 : decode cX2_signsIn 37 = .ok (.lcmp, 1) := by decide +kernel
theorem dX2_signsIn_38 : decode cX2_signsIn 38 = .ok (.ifCond .le 5, 3) := by decide +kernel
theorem dX2_signsIn_41 : decode cX2_signsIn 41 = .ok (.iconst 0, 1) := by decide +kernel
theorem dX2_signsIn_42 : decode cX2_signsIn 42 = .ok (.ireturn, 1) := by decide +kernel
theorem dX2_signsIn_43 : decode cX2_signsIn 43 = .ok (.iinc 2 1, 3) := by decide +kernel
theorem dX2_signsIn_46 : decode cX2_signsIn 46 = .ok (.lload_n 3, 1) := by decide +kernel
theorem dX2_signsIn_47 : decode cX2_signsIn 47 = .ok (.bipush 8, 2) := by decide +kernel
theorem dX2_signsIn_49 : decode cX2_signsIn 49 = .ok (.lushr, 1) := by decide +kernel
theorem dX2_signsIn_50 : decode cX2_signsIn 50 = .ok (.lstore_n 3, 1) := by decide +kernel
theorem dX2_signsIn_51 : decode cX2_signsIn 51 = .ok (.goto (-47), 3) := by decide +kernel
theorem dX2_signsIn_54 : decode cX2_signsIn 54 = .ok (.iload_n 2, 1) := by decide +kernel
theorem dX2_signsIn_55 : decode cX2_signsIn 55 = .ok (.ireturn, 1) := by decide +kernel
theorem dX2_append_0 : decode cX2_append 0 = .ok (.iload_n 3, 1) := by decide +kernel
theorem dX2_append_1 : decode cX2_append 1 = .ok (.ifCond .lt 14, 3) := by decide +kernel
theorem dX2_append_4 : decode cX2_append 4 = .ok (.iload_n 3, 1) := by decide +kernel
theorem dX2_append_5 : decode cX2_append 5 = .ok (.bipush 80, 2) := by decide +kernel
theorem dX2_append_7 : decode cX2_append 7 = .ok (.aload_n 0, 1) := by decide +kernel
theorem dX2_append_8 : decode cX2_append 8 = .ok (.getfield 21, 3) := by decide +kernel
theorem dX2_append_11 : decode cX2_append 11 = .ok (.isub, 1) := by decide +kernel
theorem dX2_append_12 : decode cX2_append 12 = .ok (.if_icmp .le 5, 3) := by decide +kernel
theorem dX2_append_15 : decode cX2_append 15 = .ok (.iconst 0, 1) := by decide +kernel
theorem dX2_append_16 : decode cX2_append 16 = .ok (.ireturn, 1) := by decide +kernel
theorem dX2_append_17 : decode cX2_append 17 = .ok (.lload_n 1, 1) := by decide +kernel
theorem dX2_append_18 : decode cX2_append 18 = .ok (.lstore 4, 2) := by decide +kernel
theorem dX2_append_20 : decode cX2_append 20 = .ok (.aload_n 0, 1) := by decide +kernel
theorem dX2_append_21 : decode cX2_append 21 = .ok (.getfield 21, 3) := by decide +kernel
theorem dX2_append_24 : decode cX2_append 24 = .ok (.iload_n 3, 1) := by decide +kernel
theorem dX2_append_25 : decode cX2_append 25 = .ok (.iadd, 1) := by decide +kernel
theorem dX2_append_26 : decode cX2_append 26 = .ok (.iconst 1, 1) := by decide +kernel
theorem dX2_append_27 : decode cX2_append 27 = .ok (.isub, 1) := by decide +kernel
theorem dX2_append_28 : decode cX2_append 28 = .ok (.istore 6, 2) := by decide +kernel
theorem dX2_append_30 : decode cX2_append 30 = .ok (.iload 6, 2) := by decide +kernel
theorem dX2_append_32 : decode cX2_append 32 = .ok (.aload_n 0, 1) := by decide +kernel
theorem dX2_append_33 : decode cX2_append 33 = .ok (.getfield 21, 3) := by decide +kernel
theorem dX2_append_36 : decode cX2_append 36 = .ok (.if_icmp .lt 31, 3) := by decide +kernel
theorem dX2_append_39 : decode cX2_append 39 = .ok (.aload_n 0, 1) := by decide +kernel
theorem dX2_append_40 : decode cX2_append 40 = .ok (.getfield 9, 3) := by decide +kernel
theorem dX2_append_43 : decode cX2_append 43 = .ok (.iload 6, 2) := by decide +kernel
theorem dX2_append_45 : decode cX2_append 45 = .ok (.lload 4, 2) := by decide +kernel
theorem dX2_append_47 : decode cX2_append 47 = .ok (.ldc2_w 15, 3) := by decide +kernel
theorem dX2_append_50 : decode cX2_append 50 = .ok (.land, 1) := by decide +kernel
theorem dX2_append_51 : decode cX2_append 51 = .ok (.l2i, 1) := by decide +kernel
theorem dX2_append_52 : decode cX2_append 52 = .ok (.i2c, 1) := by decide +kernel
theorem dX2_append_53 : decode cX2_append 53 = .ok (.castore, 1) := by decide +kernel
theorem dX2_append_54 : decode cX2_append 54 = .ok (.lload 4, 2) := by decide +kernel
theorem dX2_append_56 : decode cX2_append 56 = .ok (.bipush 8, 2) := by decide +kernel
theorem dX2_append_58 : decode cX2_append 58 = .ok (.lushr, 1) := by decide +kernel
theorem dX2_append_59 : decode cX2_append 59 = .ok (.lstore 4, 2) := by decide +kernel
theorem dX2_append_61 : decode cX2_append 61 = .ok (.iinc 6 (-1), 3) := by decide +kernel
theorem dX2_append_64 : decode cX2_append 64 = .ok (.goto (-34), 3) := by decide +kernel
theorem dX2_append_67 : decode cX2_append 67 = .ok (.aload_n 0, 1) := by decide +kernel
theorem dX2_append_68 : decode cX2_append 68 = .ok (.dup, 1) := by decide +kernel
theorem dX2_append_69 : decode cX2_append 69 = .ok (.getfield 21, 3) := by decide +kernel
theorem dX2_append_72 : decode cX2_append 72 = .ok (.iload_n 3, 1) := by decide +kernel
theorem dX2_append_73 : decode cX2_append 73 = .ok (.iadd, 1) := by decide +kernel
theorem dX2_append_74 : decode cX2_append 74 = .ok (.putfield 21, 3) := by decide +kernel
theorem dX2_append_77 : decode cX2_append 77 = .ok (.iconst 1, 1) := by decide +kernel
theorem dX2_append_78 : decode cX2_append 78 = .ok (.ireturn, 1) := by decide +kernel
theorem dX2_sign_0 : decode cX2_sign 0 = .ok (.aload_n 0, 1) := by decide +kernel
theorem dX2_sign_1 : decode cX2_sign 1 = .ok (.getfield 25, 3) := by decide +kernel
theorem dX2_sign_4 : decode cX2_sign 4 = .ok (.ifCond .lt 38, 3) := by decide +kernel
theorem dX2_sign_7 : decode cX2_sign 7 = .ok (.aload_n 0, 1) := by decide +kernel
theorem dX2_sign_8 : decode cX2_sign 8 = .ok (.getfield 25, 3) := by decide +kernel
theorem dX2_sign_11 : decode cX2_sign 11 = .ok (.aload_n 0, 1) := by decide +kernel
theorem dX2_sign_12 : decode cX2_sign 12 = .ok (.getfield 21, 3) := by decide +kernel
theorem dX2_sign_15 : decode cX2_sign 15 = .ok (.if_icmp .ge 27, 3) := by decide +kernel
theorem dX2_sign_18 : decode cX2_sign 18 = .ok (.aload_n 0, 1) := by decide +kernel
theorem dX2_sign_19 : decode cX2_sign 19 = .ok (.getfield 25, 3) := by decide +kernel
theorem dX2_sign_22 : decode cX2_sign 22 = .ok (.aload_n 0, 1) := by decide +kernel
theorem dX2_sign_23 : decode cX2_sign 23 = .ok (.getfield 9, 3) := by decide +kernel
theorem dX2_sign_26 : decode cX2_sign 26 = .ok (.arraylength, 1) := by decide +kernel
theorem dX2_sign_27 : decode cX2_sign 27 = .ok (.if_icmp .ge 15, 3) := by decide +kernel
theorem dX2_sign_30 : decode cX2_sign 30 = .ok (.aload_n 0, 1) := by decide +kernel
theorem dX2_sign_31 : decode cX2_sign 31 = .ok (.getfield 9, 3) := by decide +kernel
theorem dX2_sign_34 : decode cX2_sign 34 = .ok (.aload_n 0, 1) := by decide +kernel
theorem dX2_sign_35 : decode cX2_sign 35 = .ok (.getfield 25, 3) := by decide +kernel
theorem dX2_sign_38 : decode cX2_sign 38 = .ok (.caload, 1) := by decide +kernel
theorem dX2_sign_39 : decode cX2_sign 39 = .ok (.goto 4, 3) := by decide +kernel
theorem dX2_sign_42 : decode cX2_sign 42 = .ok (.iconst 0, 1) := by decide +kernel
theorem dX2_sign_43 : decode cX2_sign 43 = .ok (.ireturn, 1) := by decide +kernel
theorem dX2_findFault_0 : decode cX2_findFault 0 = .ok (.aload_n 0, 1) := by decide +kernel
theorem dX2_findFault_1 : decode cX2_findFault 1 = .ok (.iconst 0, 1) := by decide +kernel
theorem dX2_findFault_2 : decode cX2_findFault 2 = .ok (.putfield 25, 3) := by decide +kernel
theorem dX2_findFault_5 : decode cX2_findFault 5 = .ok (.iconst 0, 1) := by decide +kernel
theorem dX2_findFault_6 : decode cX2_findFault 6 = .ok (.istore_n 1, 1) := by decide +kernel
theorem dX2_findFault_7 : decode cX2_findFault 7 = .ok (.iload_n 1, 1) := by decide +kernel
theorem dX2_findFault_8 : decode cX2_findFault 8 = .ok (.bipush 80, 2) := by decide +kernel
theorem dX2_findFault_10 : decode cX2_findFault 10 = .ok (.if_icmp .gt 49, 3) := by decide +kernel
theorem dX2_findFault_13 : decode cX2_findFault 13 = .ok (.aload_n 0, 1) := by decide +kernel
theorem dX2_findFault_14 : decode cX2_findFault 14 = .ok (.invokevirtual 28, 3) := by decide +kernel
theorem dX2_findFault_17 : decode cX2_findFault 17 = .ok (.ifCond .ne 8, 3) := by decide +kernel
theorem dX2_findFault_20 : decode cX2_findFault 20 = .ok (.aload_n 0, 1) := by decide +kernel
theorem dX2_findFault_21 : decode cX2_findFault 21 = .ok (.getfield 25, 3) := by decide +kernel
theorem dX2_findFault_24 : decode cX2_findFault 24 = .ok (.ireturn, 1) := by decide +kernel
theorem dX2_findFault_25 : decode cX2_findFault 25 = .ok (.aload_n 0, 1) := by decide +kernel
theorem dX2_findFault_26 : decode cX2_findFault 26 = .ok (.getfield 25, 3) := by decide +kernel
theorem dX2_findFault_29 : decode cX2_findFault 29 = .ok (.aload_n 0, 1) := by decide +kernel
theorem dX2_findFault_30 : decode cX2_findFault 30 = .ok (.getfield 21, 3) := by decide +kernel
theorem dX2_findFault_33 : decode cX2_findFault 33 = .ok (.if_icmp .ne 6, 3) := by decide +kernel
theorem dX2_findFault_36 : decode cX2_findFault 36 = .ok (.bipush (-6), 2) := by decide +kernel
theorem dX2_findFault_38 : decode cX2_findFault 38 = .ok (.ireturn, 1) := by decide +kernel
theorem dX2_findFault_39 : decode cX2_findFault 39 = .ok (.aload_n 0, 1) := by decide +kernel
theorem dX2_findFault_40 : decode cX2_findFault 40 = .ok (.bipush 59, 2) := by decide +kernel
theorem dX2_findFault_42 : decode cX2_findFault 42 = .ok (.invokevirtual 32, 3) := by decide +kernel
theorem dX2_findFault_45 : decode cX2_findFault 45 = .ok (.ifCond .ne 8, 3) := by decide +kernel
theorem dX2_findFault_48 : decode cX2_findFault 48 = .ok (.aload_n 0, 1) := by decide +kernel
theorem dX2_findFault_49 : decode cX2_findFault 49 = .ok (.getfield 25, 3) := by decide +kernel
theorem dX2_findFault_52 : decode cX2_findFault 52 = .ok (.ireturn, 1) := by decide +kernel
theorem dX2_findFault_53 : decode cX2_findFault 53 = .ok (.iinc 1 1, 3) := by decide +kernel
theorem dX2_findFault_56 : decode cX2_findFault 56 = .ok (.goto (-49), 3) := by decide +kernel
theorem dX2_findFault_59 : decode cX2_findFault 59 = .ok (.aload_n 0, 1) := by decide +kernel
theorem dX2_findFault_60 : decode cX2_findFault 60 = .ok (.getfield 25, 3) := by decide +kernel
theorem dX2_findFault_63 : decode cX2_findFault 63 = .ok (.ireturn, 1) := by decide +kernel
theorem dX2_readEntry_0 : decode cX2_readEntry 0 = .ok (.aload_n 0, 1) := by decide +kernel
theorem dX2_readEntry_1 : decode cX2_readEntry 1 = .ok (.aload_n 0, 1) := by decide +kernel
theorem dX2_readEntry_2 : decode cX2_readEntry 2 = .ok (.invokevirtual 36, 3) := by decide +kernel
theorem dX2_readEntry_5 : decode cX2_readEntry 5 = .ok (.putfield 40, 3) := by decide +kernel
theorem dX2_readEntry_8 : decode cX2_readEntry 8 = .ok (.aload_n 0, 1) := by decide +kernel
theorem dX2_readEntry_9 : decode cX2_readEntry 9 = .ok (.getfield 40, 3) := by decide +kernel
theorem dX2_readEntry_12 : decode cX2_readEntry 12 = .ok (.bipush 43, 2) := by decide +kernel
theorem dX2_readEntry_14 : decode cX2_readEntry 14 = .ok (.if_icmp .eq 41, 3) := by decide +kernel
theorem dX2_readEntry_17 : decode cX2_readEntry 17 = .ok (.aload_n 0, 1) := by decide +kernel
theorem dX2_readEntry_18 : decode cX2_readEntry 18 = .ok (.getfield 40, 3) := by decide +kernel
theorem dX2_readEntry_21 : decode cX2_readEntry 21 = .ok (.bipush 45, 2) := by decide +kernel
theorem dX2_readEntry_23 : decode cX2_readEntry 23 = .ok (.if_icmp .eq 32, 3) := by decide +kernel
theorem dX2_readEntry_26 : decode cX2_readEntry 26 = .ok (.aload_n 0, 1) := by decide +kernel
theorem dX2_readEntry_27 : decode cX2_readEntry 27 = .ok (.getfield 40, 3) := by decide +kernel
theorem dX2_readEntry_30 : decode cX2_readEntry 30 = .ok (.bipush 103, 2) := by decide +kernel
theorem dX2_readEntry_32 : decode cX2_readEntry 32 = .ok (.if_icmp .eq 23, 3) := by decide +kernel
theorem dX2_readEntry_35 : decode cX2_readEntry 35 = .ok (.aload_n 0, 1) := by decide +kernel
theorem dX2_readEntry_36 : decode cX2_readEntry 36 = .ok (.getfield 40, 3) := by decide +kernel
theorem dX2_readEntry_39 : decode cX2_readEntry 39 = .ok (.bipush 112, 2) := by decide +kernel
theorem dX2_readEntry_41 : decode cX2_readEntry 41 = .ok (.if_icmp .eq 14, 3) := by decide +kernel
theorem dX2_readEntry_44 : decode cX2_readEntry 44 = .ok (.aload_n 0, 1) := by decide +kernel
theorem dX2_readEntry_45 : decode cX2_readEntry 45 = .ok (.getfield 40, 3) := by decide +kernel
theorem dX2_readEntry_48 : decode cX2_readEntry 48 = .ok (.bipush 100, 2) := by decide +kernel
theorem dX2_readEntry_50 : decode cX2_readEntry 50 = .ok (.if_icmp .eq 5, 3) := by decide +kernel
theorem dX2_readEntry_53 : decode cX2_readEntry 53 = .ok (.iconst 0, 1) := by decide +kernel
theorem dX2_readEntry_54 : decode cX2_readEntry 54 = .ok (.ireturn, 1) := by decide +kernel
theorem dX2_readEntry_55 : decode cX2_readEntry 55 = .ok (.aload_n 0, 1) := by decide +kernel
theorem dX2_readEntry_56 : decode cX2_readEntry 56 = .ok (.dup, 1) := by decide +kernel
theorem dX2_readEntry_57 : decode cX2_readEntry 57 = .ok (.getfield 25, 3) := by decide +kernel
theorem dX2_readEntry_60 : decode cX2_readEntry 60 = .ok (.iconst 1, 1) := by decide +kernel
theorem dX2_readEntry_61 : decode cX2_readEntry 61 = .ok (.iadd, 1) := by decide +kernel
theorem dX2_readEntry_62 : decode cX2_readEntry 62 = .ok (.putfield 25, 3) := by decide +kernel
theorem dX2_readEntry_65 : decode cX2_readEntry 65 = .ok (.aload_n 0, 1) := by decide +kernel
theorem dX2_readEntry_66 : decode cX2_readEntry 66 = .ok (.getfield 40, 3) := by decide +kernel
theorem dX2_readEntry_69 : decode cX2_readEntry 69 = .ok (.bipush 43, 2) := by decide +kernel
theorem dX2_readEntry_71 : decode cX2_readEntry 71 = .ok (.if_icmp .eq 21, 3) := by decide +kernel
theorem dX2_readEntry_74 : decode cX2_readEntry 74 = .ok (.aload_n 0, 1) := by decide +kernel
theorem dX2_readEntry_75 : decode cX2_readEntry 75 = .ok (.getfield 40, 3) := by decide +kernel
theorem dX2_readEntry_78 : decode cX2_readEntry 78 = .ok (.bipush 103, 2) := by decide +kernel
theorem dX2_readEntry_80 : decode cX2_readEntry 80 = .ok (.if_icmp .eq 12, 3) := by decide +kernel
theorem dX2_readEntry_83 : decode cX2_readEntry 83 = .ok (.aload_n 0, 1) := by decide +kernel
theorem dX2_readEntry_84 : decode cX2_readEntry 84 = .ok (.getfield 40, 3) := by decide +kernel
theorem dX2_readEntry_87 : decode cX2_readEntry 87 = .ok (.bipush 112, 2) := by decide +kernel
theorem dX2_readEntry_89 : decode cX2_readEntry 89 = .ok (.if_icmp .ne 7, 3) := by decide +kernel
theorem dX2_readEntry_92 : decode cX2_readEntry 92 = .ok (.iconst 1, 1) := by decide +kernel
theorem dX2_readEntry_93 : decode cX2_readEntry 93 = .ok (.goto 4, 3) := by decide +kernel
theorem dX2_readEntry_96 : decode cX2_readEntry 96 = .ok (.iconst 0, 1) := by decide +kernel
theorem dX2_readEntry_97 : decode cX2_readEntry 97 = .ok (.istore_n 1, 1) := by decide +kernel
theorem dX2_readEntry_98 : decode cX2_readEntry 98 = .ok (.iload_n 1, 1) := by decide +kernel
theorem dX2_readEntry_99 : decode cX2_readEntry 99 = .ok (.ifCond .eq 12, 3) := by decide +kernel
theorem dX2_readEntry_102 : decode cX2_readEntry 102 = .ok (.aload_n 0, 1) := by decide +kernel
theorem dX2_readEntry_103 : decode cX2_readEntry 103 = .ok (.invokevirtual 43, 3) := by decide +kernel
theorem dX2_readEntry_106 : decode cX2_readEntry 106 = .ok (.ifCond .ne 5, 3) := by decide +kernel
theorem dX2_readEntry_109 : decode cX2_readEntry 109 = .ok (.iconst 0, 1) := by decide +kernel
theorem dX2_readEntry_110 : decode cX2_readEntry 110 = .ok (.ireturn, 1) := by decide +kernel
theorem dX2_readEntry_111 : decode cX2_readEntry 111 = .ok (.aload_n 0, 1) := by decide +kernel
theorem dX2_readEntry_112 : decode cX2_readEntry 112 = .ok (.invokevirtual 46, 3) := by decide +kernel
theorem dX2_readEntry_115 : decode cX2_readEntry 115 = .ok (.ifCond .ne 5, 3) := by decide +kernel
theorem dX2_readEntry_118 : decode cX2_readEntry 118 = .ok (.iconst 0, 1) := by decide +kernel
theorem dX2_readEntry_119 : decode cX2_readEntry 119 = .ok (.ireturn, 1) := by decide +kernel
theorem dX2_readEntry_120 : decode cX2_readEntry 120 = .ok (.aload_n 0, 1) := by decide +kernel
theorem dX2_readEntry_121 : decode cX2_readEntry 121 = .ok (.getfield 40, 3) := by decide +kernel
theorem dX2_readEntry_124 : decode cX2_readEntry 124 = .ok (.bipush 43, 2) := by decide +kernel
theorem dX2_readEntry_126 : decode cX2_readEntry 126 = .ok (.if_icmp .eq 14, 3) := by decide +kernel
theorem dX2_readEntry_129 : decode cX2_readEntry 129 = .ok (.aload_n 0, 1) := by decide +kernel
theorem dX2_readEntry_130 : decode cX2_readEntry 130 = .ok (.getfield 40, 3) := by decide +kernel
theorem dX2_readEntry_133 : decode cX2_readEntry 133 = .ok (.bipush 45, 2) := by decide +kernel
theorem dX2_readEntry_135 : decode cX2_readEntry 135 = .ok (.if_icmp .eq 5, 3) := by decide +kernel
theorem dX2_readEntry_138 : decode cX2_readEntry 138 = .ok (.iconst 1, 1) := by decide +kernel
theorem dX2_readEntry_139 : decode cX2_readEntry 139 = .ok (.ireturn, 1) := by decide +kernel
theorem dX2_readEntry_140 : decode cX2_readEntry 140 = .ok (.aload_n 0, 1) := by decide +kernel
theorem dX2_readEntry_141 : decode cX2_readEntry 141 = .ok (.getfield 49, 3) := by decide +kernel
theorem dX2_readEntry_144 : decode cX2_readEntry 144 = .ok (.istore_n 2, 1) := by decide +kernel
theorem dX2_readEntry_145 : decode cX2_readEntry 145 = .ok (.aload_n 0, 1) := by decide +kernel
theorem dX2_readEntry_146 : decode cX2_readEntry 146 = .ok (.bipush 58, 2) := by decide +kernel
theorem dX2_readEntry_148 : decode cX2_readEntry 148 = .ok (.invokevirtual 32, 3) := by decide +kernel
theorem dX2_readEntry_151 : decode cX2_readEntry 151 = .ok (.ifCond .eq 10, 3) := by decide +kernel
theorem dX2_readEntry_154 : decode cX2_readEntry 154 = .ok (.aload_n 0, 1) := by decide +kernel
theorem dX2_readEntry_155 : decode cX2_readEntry 155 = .ok (.invokevirtual 46, 3) := by decide +kernel
theorem dX2_readEntry_158 : decode cX2_readEntry 158 = .ok (.ifCond .ne 5, 3) := by decide +kernel
theorem dX2_readEntry_161 : decode cX2_readEntry 161 = .ok (.iconst 0, 1) := by decide +kernel
theorem dX2_readEntry_162 : decode cX2_readEntry 162 = .ok (.ireturn, 1) := by decide +kernel
theorem dX2_readEntry_163 : decode cX2_readEntry 163 = .ok (.aload_n 0, 1) := by decide +kernel
theorem dX2_readEntry_164 : decode cX2_readEntry 164 = .ok (.aload_n 0, 1) := by decide +kernel
theorem dX2_readEntry_165 : decode cX2_readEntry 165 = .ok (.getfield 49, 3) := by decide +kernel
theorem dX2_readEntry_168 : decode cX2_readEntry 168 = .ok (.putfield 52, 3) := by decide +kernel
theorem dX2_readEntry_171 : decode cX2_readEntry 171 = .ok (.aload_n 0, 1) := by decide +kernel
theorem dX2_readEntry_172 : decode cX2_readEntry 172 = .ok (.iload_n 2, 1) := by decide +kernel
theorem dX2_readEntry_173 : decode cX2_readEntry 173 = .ok (.putfield 49, 3) := by decide +kernel
theorem dX2_readEntry_176 : decode cX2_readEntry 176 = .ok (.iconst 1, 1) := by decide +kernel
theorem dX2_readEntry_177 : decode cX2_readEntry 177 = .ok (.ireturn, 1) := by decide +kernel
theorem dX2_readSign_0 : decode cX2_readSign 0 = .ok (.aload_n 0, 1) := by decide +kernel
theorem dX2_readSign_1 : decode cX2_readSign 1 = .ok (.invokevirtual 36, 3) := by decide +kernel
theorem dX2_readSign_4 : decode cX2_readSign 4 = .ok (.iload_n 1, 1) := by decide +kernel
theorem dX2_readSign_5 : decode cX2_readSign 5 = .ok (.if_icmp .eq 5, 3) := by decide +kernel
theorem dX2_readSign_8 : decode cX2_readSign 8 = .ok (.iconst 0, 1) := by decide +kernel
theorem dX2_readSign_9 : decode cX2_readSign 9 = .ok (.ireturn, 1) := by decide +kernel
theorem dX2_readSign_10 : decode cX2_readSign 10 = .ok (.aload_n 0, 1) := by decide +kernel
theorem dX2_readSign_11 : decode cX2_readSign 11 = .ok (.dup, 1) := by decide +kernel
theorem dX2_readSign_12 : decode cX2_readSign 12 = .ok (.getfield 25, 3) := by decide +kernel
theorem dX2_readSign_15 : decode cX2_readSign 15 = .ok (.iconst 1, 1) := by decide +kernel
theorem dX2_readSign_16 : decode cX2_readSign 16 = .ok (.iadd, 1) := by decide +kernel
theorem dX2_readSign_17 : decode cX2_readSign 17 = .ok (.putfield 25, 3) := by decide +kernel
theorem dX2_readSign_20 : decode cX2_readSign 20 = .ok (.iconst 1, 1) := by decide +kernel
theorem dX2_readSign_21 : decode cX2_readSign 21 = .ok (.ireturn, 1) := by decide +kernel
theorem dX2_readLetter_0 : decode cX2_readLetter 0 = .ok (.aload_n 0, 1) := by decide +kernel
theorem dX2_readLetter_1 : decode cX2_readLetter 1 = .ok (.aload_n 0, 1) := by decide +kernel
theorem dX2_readLetter_2 : decode cX2_readLetter 2 = .ok (.invokevirtual 36, 3) := by decide +kernel
theorem dX2_readLetter_5 : decode cX2_readLetter 5 = .ok (.bipush 65, 2) := by decide +kernel
theorem dX2_readLetter_7 : decode cX2_readLetter 7 = .ok (.isub, 1) := by decide +kernel
theorem dX2_readLetter_8 : decode cX2_readLetter 8 = .ok (.putfield 55, 3) := by decide +kernel
theorem dX2_readLetter_11 : decode cX2_readLetter 11 = .ok (.aload_n 0, 1) := by decide +kernel
theorem dX2_readLetter_12 : decode cX2_readLetter 12 = .ok (.getfield 55, 3) := by decide +kernel
theorem dX2_readLetter_15 : decode cX2_readLetter 15 = .ok (.ifCond .lt 12, 3) := by decide +kernel
theorem dX2_readLetter_18 : decode cX2_readLetter 18 = .ok (.aload_n 0, 1) := by decide +kernel
theorem dX2_readLetter_19 : decode cX2_readLetter 19 = .ok (.getfield 55, 3) := by decide +kernel
theorem dX2_readLetter_22 : decode cX2_readLetter 22 = .ok (.bipush 10, 2) := by decide +kernel
theorem dX2_readLetter_24 : decode cX2_readLetter 24 = .ok (.if_icmp .lt 5, 3) := by decide +kernel
theorem dX2_readLetter_27 : decode cX2_readLetter 27 = .ok (.iconst 0, 1) := by decide +kernel
theorem dX2_readLetter_28 : decode cX2_readLetter 28 = .ok (.ireturn, 1) := by decide +kernel
theorem dX2_readLetter_29 : decode cX2_readLetter 29 = .ok (.aload_n 0, 1) := by decide +kernel
theorem dX2_readLetter_30 : decode cX2_readLetter 30 = .ok (.dup, 1) := by decide +kernel
theorem dX2_readLetter_31 : decode cX2_readLetter 31 = .ok (.getfield 25, 3) := by decide +kernel
theorem dX2_readLetter_34 : decode cX2_readLetter 34 = .ok (.iconst 1, 1) := by decide +kernel
theorem dX2_readLetter_35 : decode cX2_readLetter 35 = .ok (.iadd, 1) := by decide +kernel
theorem dX2_readLetter_36 : decode cX2_readLetter 36 = .ok (.putfield 25, 3) := by decide +kernel
theorem dX2_readLetter_39 : decode cX2_readLetter 39 = .ok (.iconst 1, 1) := by decide +kernel
theorem dX2_readLetter_40 : decode cX2_readLetter 40 = .ok (.ireturn, 1) := by decide +kernel
theorem dX2_isDigit_0 : decode cX2_isDigit 0 = .ok (.aload_n 0, 1) := by decide +kernel
theorem dX2_isDigit_1 : decode cX2_isDigit 1 = .ok (.invokevirtual 36, 3) := by decide +kernel
theorem dX2_isDigit_4 : decode cX2_isDigit 4 = .ok (.bipush 48, 2) := by decide +kernel
theorem dX2_isDigit_6 : decode cX2_isDigit 6 = .ok (.if_icmp .lt 16, 3) := by decide +kernel
theorem dX2_isDigit_9 : decode cX2_isDigit 9 = .ok (.aload_n 0, 1) := by decide +kernel
theorem dX2_isDigit_10 : decode cX2_isDigit 10 = .ok (.invokevirtual 36, 3) := by decide +kernel
theorem dX2_isDigit_13 : decode cX2_isDigit 13 = .ok (.bipush 57, 2) := by decide +kernel
theorem dX2_isDigit_15 : decode cX2_isDigit 15 = .ok (.if_icmp .gt 7, 3) := by decide +kernel
theorem dX2_isDigit_18 : decode cX2_isDigit 18 = .ok (.iconst 1, 1) := by decide +kernel
theorem dX2_isDigit_19 : decode cX2_isDigit 19 = .ok (.goto 4, 3) := by decide +kernel
theorem dX2_isDigit_22 : decode cX2_isDigit 22 = .ok (.iconst 0, 1) := by decide +kernel
theorem dX2_isDigit_23 : decode cX2_isDigit 23 = .ok (.ireturn, 1) := by decide +kernel
theorem dX2_readNumber_0 : decode cX2_readNumber 0 = .ok (.aload_n 0, 1) := by decide +kernel
theorem dX2_readNumber_1 : decode cX2_readNumber 1 = .ok (.invokevirtual 58, 3) := by decide +kernel
theorem dX2_readNumber_4 : decode cX2_readNumber 4 = .ok (.ifCond .ne 5, 3) := by decide +kernel
theorem dX2_readNumber_7 : decode cX2_readNumber 7 = .ok (.iconst 0, 1) := by decide +kernel
theorem dX2_readNumber_8 : decode cX2_readNumber 8 = .ok (.ireturn, 1) := by decide +kernel
theorem dX2_readNumber_9 : decode cX2_readNumber 9 = .ok (.aload_n 0, 1) := by decide +kernel
theorem dX2_readNumber_10 : decode cX2_readNumber 10 = .ok (.aload_n 0, 1) := by decide +kernel
theorem dX2_readNumber_11 : decode cX2_readNumber 11 = .ok (.invokevirtual 36, 3) := by decide +kernel
theorem dX2_readNumber_14 : decode cX2_readNumber 14 = .ok (.bipush 48, 2) := by decide +kernel
theorem dX2_readNumber_16 : decode cX2_readNumber 16 = .ok (.isub, 1) := by decide +kernel
theorem dX2_readNumber_17 : decode cX2_readNumber 17 = .ok (.putfield 49, 3) := by decide +kernel
theorem dX2_readNumber_20 : decode cX2_readNumber 20 = .ok (.aload_n 0, 1) := by decide +kernel
theorem dX2_readNumber_21 : decode cX2_readNumber 21 = .ok (.dup, 1) := by decide +kernel
theorem dX2_readNumber_22 : decode cX2_readNumber 22 = .ok (.getfield 25, 3) := by decide +kernel
theorem dX2_readNumber_25 : decode cX2_readNumber 25 = .ok (.iconst 1, 1) := by decide +kernel
theorem dX2_readNumber_26 : decode cX2_readNumber 26 = .ok (.iadd, 1) := by decide +kernel
theorem dX2_readNumber_27 : decode cX2_readNumber 27 = .ok (.putfield 25, 3) := by decide +kernel
theorem dX2_readNumber_30 : decode cX2_readNumber 30 = .ok (.iconst 1, 1) := by decide +kernel
theorem dX2_readNumber_31 : decode cX2_readNumber 31 = .ok (.istore_n 1, 1) := by decide +kernel
theorem dX2_readNumber_32 : decode cX2_readNumber 32 = .ok (.iload_n 1, 1) := by decide +kernel
theorem dX2_readNumber_33 : decode cX2_readNumber 33 = .ok (.iconst 4, 1) := by decide +kernel
theorem dX2_readNumber_34 : decode cX2_readNumber 34 = .ok (.if_icmp .ge 52, 3) := by decide +kernel
theorem dX2_readNumber_37 : decode cX2_readNumber 37 = .ok (.aload_n 0, 1) := by decide +kernel
theorem dX2_readNumber_38 : decode cX2_readNumber 38 = .ok (.getfield 49, 3) := by decide +kernel
theorem dX2_readNumber_41 : decode cX2_readNumber 41 = .ok (.ifCond .le 45, 3) := by decide +kernel
theorem dX2_readNumber_44 : decode cX2_readNumber 44 = .ok (.aload_n 0, 1) := by decide +kernel
theorem dX2_readNumber_45 : decode cX2_readNumber 45 = .ok (.invokevirtual 58, 3) := by decide +kernel
theorem dX2_readNumber_48 : decode cX2_readNumber 48 = .ok (.ifCond .eq 38, 3) := by decide +kernel
theorem dX2_readNumber_51 : decode cX2_readNumber 51 = .ok (.aload_n 0, 1) := by decide +kernel
theorem dX2_readNumber_52 : decode cX2_readNumber 52 = .ok (.aload_n 0, 1) := by decide +kernel
theorem dX2_readNumber_53 : decode cX2_readNumber 53 = .ok (.getfield 49, 3) := by decide +kernel
theorem dX2_readNumber_56 : decode cX2_readNumber 56 = .ok (.bipush 10, 2) := by decide +kernel
theorem dX2_readNumber_58 : decode cX2_readNumber 58 = .ok (.imul, 1) := by decide +kernel
theorem dX2_readNumber_59 : decode cX2_readNumber 59 = .ok (.aload_n 0, 1) := by decide +kernel
theorem dX2_readNumber_60 : decode cX2_readNumber 60 = .ok (.invokevirtual 36, 3) := by decide +kernel
theorem dX2_readNumber_63 : decode cX2_readNumber 63 = .ok (.iadd, 1) := by decide +kernel
theorem dX2_readNumber_64 : decode cX2_readNumber 64 = .ok (.bipush 48, 2) := by decide +kernel
theorem dX2_readNumber_66 : decode cX2_readNumber 66 = .ok (.isub, 1) := by decide +kernel
theorem dX2_readNumber_67 : decode cX2_readNumber 67 = .ok (.putfield 49, 3) := by decide +kernel
theorem dX2_readNumber_70 : decode cX2_readNumber 70 = .ok (.aload_n 0, 1) := by decide +kernel
theorem dX2_readNumber_71 : decode cX2_readNumber 71 = .ok (.dup, 1) := by decide +kernel
theorem dX2_readNumber_72 : decode cX2_readNumber 72 = .ok (.getfield 25, 3) := by decide +kernel
theorem dX2_readNumber_75 : decode cX2_readNumber 75 = .ok (.iconst 1, 1) := by decide +kernel
theorem dX2_readNumber_76 : decode cX2_readNumber 76 = .ok (.iadd, 1) := by decide +kernel
theorem dX2_readNumber_77 : decode cX2_readNumber 77 = .ok (.putfield 25, 3) := by decide +kernel
theorem dX2_readNumber_80 : decode cX2_readNumber 80 = .ok (.iinc 1 1, 3) := by decide +kernel
theorem dX2_readNumber_83 : decode cX2_readNumber 83 = .ok (.goto (-51), 3) := by decide +kernel
theorem dX2_readNumber_86 : decode cX2_readNumber 86 = .ok (.iconst 1, 1) := by decide +kernel
theorem dX2_readNumber_87 : decode cX2_readNumber 87 = .ok (.ireturn, 1) := by decide +kernel
theorem dX3_init_0 : decode cX3_init 0 = .ok (.aload_n 0, 1) := by decide +kernel
theorem dX3_init_1 : decode cX3_init 1 = .ok (.invokespecial 3, 3) := by decide +kernel
theorem dX3_init_4 : decode cX3_init 4 = .ok (.aload_n 0, 1) := by decide +kernel
theorem dX3_init_5 : decode cX3_init 5 = .ok (.new 9, 3) := by decide +kernel
theorem dX3_init_8 : decode cX3_init 8 = .ok (.dup, 1) := by decide +kernel
theorem dX3_init_9 : decode cX3_init 9 = .ok (.invokespecial 11, 3) := by decide +kernel
theorem dX3_init_12 : decode cX3_init 12 = .ok (.putfield 12, 3) := by decide +kernel
theorem dX3_init_15 : decode cX3_init 15 = .ok (.aload_n 0, 1) := by decide +kernel
theorem dX3_init_16 : decode cX3_init 16 = .ok (.new 18, 3) := by decide +kernel
theorem dX3_init_19 : decode cX3_init 19 = .ok (.dup, 1) := by decide +kernel
theorem dX3_init_20 : decode cX3_init 20 = .ok (.invokespecial 20, 3) := by decide +kernel
theorem dX3_init_23 : decode cX3_init 23 = .ok (.putfield 21, 3) := by decide +kernel
theorem dX3_init_26 : decode cX3_init 26 = .ok (.aload_n 0, 1) := by decide +kernel
theorem dX3_init_27 : decode cX3_init 27 = .ok (.new 25, 3) := by decide +kernel
theorem dX3_init_30 : decode cX3_init 30 = .ok (.dup, 1) := by decide +kernel
theorem dX3_init_31 : decode cX3_init 31 = .ok (.iconst 5, 1) := by decide +kernel
theorem dX3_init_32 : decode cX3_init 32 = .ok (.invokespecial 27, 3) := by decide +kernel
theorem dX3_init_35 : decode cX3_init 35 = .ok (.putfield 30, 3) := by decide +kernel
theorem dX3_init_38 : decode cX3_init 38 = .ok (.aload_n 0, 1) := by decide +kernel
theorem dX3_init_39 : decode cX3_init 39 = .ok (.bipush 10, 2) := by decide +kernel
theorem dX3_init_41 : decode cX3_init 41 = .ok (.newarray .long, 2) := by decide +kernel
theorem dX3_init_43 : decode cX3_init 43 = .ok (.putfield 34, 3) := by decide +kernel
theorem dX3_init_46 : decode cX3_init 46 = .ok (.aload_n 0, 1) := by decide +kernel
theorem dX3_init_47 : decode cX3_init 47 = .ok (.new 25, 3) := by decide +kernel
theorem dX3_init_50 : decode cX3_init 50 = .ok (.dup, 1) := by decide +kernel
theorem dX3_init_51 : decode cX3_init 51 = .ok (.bipush 10, 2) := by decide +kernel
theorem dX3_init_53 : decode cX3_init 53 = .ok (.invokespecial 27, 3) := by decide +kernel
theorem dX3_init_56 : decode cX3_init 56 = .ok (.putfield 38, 3) := by decide +kernel
theorem dX3_init_59 : decode cX3_init 59 = .ok (.aload_n 0, 1) := by decide +kernel
theorem dX3_init_60 : decode cX3_init 60 = .ok (.new 25, 3) := by decide +kernel
theorem dX3_init_63 : decode cX3_init 63 = .ok (.dup, 1) := by decide +kernel
theorem dX3_init_64 : decode cX3_init 64 = .ok (.bipush 10, 2) := by decide +kernel
theorem dX3_init_66 : decode cX3_init 66 = .ok (.invokespecial 27, 3) := by decide +kernel
theorem dX3_init_69 : decode cX3_init 69 = .ok (.putfield 41, 3) := by decide +kernel
theorem dX3_init_72 : decode cX3_init 72 = .ok (.iconst 0, 1) := by decide +kernel
theorem dX3_init_73 : decode cX3_init 73 = .ok (.istore_n 1, 1) := by decide +kernel
theorem dX3_init_74 : decode cX3_init 74 = .ok (.iload_n 1, 1) := by decide +kernel
theorem dX3_init_75 : decode cX3_init 75 = .ok (.getstatic 44, 3) := by decide +kernel
theorem dX3_init_78 : decode cX3_init 78 = .ok (.arraylength, 1) := by decide +kernel
theorem dX3_init_79 : decode cX3_init 79 = .ok (.if_icmp .ge 22, 3) := by decide +kernel
theorem dX3_init_82 : decode cX3_init 82 = .ok (.aload_n 0, 1) := by decide +kernel
theorem dX3_init_83 : decode cX3_init 83 = .ok (.getfield 30, 3) := by decide +kernel
theorem dX3_init_86 : decode cX3_init 86 = .ok (.iload_n 1, 1) := by decide +kernel
theorem dX3_init_87 : decode cX3_init 87 = .ok (.getstatic 44, 3) := by decide +kernel
theorem dX3_init_90 : decode cX3_init 90 = .ok (.iload_n 1, 1) := by decide +kernel
theorem dX3_init_91 : decode cX3_init 91 = .ok (.iaload, 1) := by decide +kernel
theorem dX3_init_92 : decode cX3_init 92 = .ok (.invokevirtual 48, 3) := by decide +kernel
theorem dX3_init_95 : decode cX3_init 95 = .ok (.iinc 1 1, 3) := by decide +kernel
theorem dX3_init_98 : decode cX3_init 98 = .ok (.goto (-24), 3) := by decide +kernel
theorem dX3_init_101 : decode cX3_init 101 = .ok (.return_, 1) := by decide +kernel
theorem dX3_copy_0 : decode cX3_copy 0 = .ok (.aload_n 0, 1) := by decide +kernel
theorem dX3_copy_1 : decode cX3_copy 1 = .ok (.getfield 12, 3) := by decide +kernel
theorem dX3_copy_4 : decode cX3_copy 4 = .ok (.aload_n 1, 1) := by decide +kernel
theorem dX3_copy_5 : decode cX3_copy 5 = .ok (.getfield 12, 3) := by decide +kernel
theorem dX3_copy_8 : decode cX3_copy 8 = .ok (.invokevirtual 52, 3) := by decide +kernel
theorem dX3_copy_11 : decode cX3_copy 11 = .ok (.aload_n 0, 1) := by decide +kernel
theorem dX3_copy_12 : decode cX3_copy 12 = .ok (.getfield 21, 3) := by decide +kernel
theorem dX3_copy_15 : decode cX3_copy 15 = .ok (.aload_n 1, 1) := by decide +kernel
theorem dX3_copy_16 : decode cX3_copy 16 = .ok (.getfield 21, 3) := by decide +kernel
theorem dX3_copy_19 : decode cX3_copy 19 = .ok (.invokevirtual 56, 3) := by decide +kernel
theorem dX3_copy_22 : decode cX3_copy 22 = .ok (.aload_n 0, 1) := by decide +kernel
theorem dX3_copy_23 : decode cX3_copy 23 = .ok (.getfield 30, 3) := by decide +kernel
theorem dX3_copy_26 : decode cX3_copy 26 = .ok (.aload_n 1, 1) := by decide +kernel
theorem dX3_copy_27 : decode cX3_copy 27 = .ok (.getfield 30, 3) := by decide +kernel
theorem dX3_copy_30 : decode cX3_copy 30 = .ok (.invokevirtual 59, 3) := by decide +kernel
theorem dX3_copy_33 : decode cX3_copy 33 = .ok (.aload_n 1, 1) := by decide +kernel
theorem dX3_copy_34 : decode cX3_copy 34 = .ok (.getfield 34, 3) := by decide +kernel
theorem dX3_copy_37 : decode cX3_copy 37 = .ok (.iconst 0, 1) := by decide +kernel
theorem dX3_copy_38 : decode cX3_copy 38 = .ok (.aload_n 0, 1) := by decide +kernel
theorem dX3_copy_39 : decode cX3_copy 39 = .ok (.getfield 34, 3) := by decide +kernel
theorem dX3_copy_42 : decode cX3_copy 42 = .ok (.iconst 0, 1) := by decide +kernel
theorem dX3_copy_43 : decode cX3_copy 43 = .ok (.aload_n 0, 1) := by decide +kernel
theorem dX3_copy_44 : decode cX3_copy 44 = .ok (.getfield 34, 3) := by decide +kernel
theorem dX3_copy_47 : decode cX3_copy 47 = .ok (.arraylength, 1) := by decide +kernel
theorem dX3_copy_48 : decode cX3_copy 48 = .ok (.aload_n 1, 1) := by decide +kernel
theorem dX3_copy_49 : decode cX3_copy 49 = .ok (.getfield 34, 3) := by decide +kernel
theorem dX3_copy_52 : decode cX3_copy 52 = .ok (.arraylength, 1) := by decide +kernel
theorem dX3_copy_53 : decode cX3_copy 53 = .ok (.invokestatic 62, 3) := by decide +kernel
theorem dX3_copy_56 : decode cX3_copy 56 = .ok (.invokestatic 68, 3) := by decide +kernel
theorem dX3_copy_59 : decode cX3_copy 59 = .ok (.aload_n 0, 1) := by decide +kernel
theorem dX3_copy_60 : decode cX3_copy 60 = .ok (.getfield 38, 3) := by decide +kernel
theorem dX3_copy_63 : decode cX3_copy 63 = .ok (.aload_n 1, 1) := by decide +kernel
theorem dX3_copy_64 : decode cX3_copy 64 = .ok (.getfield 38, 3) := by decide +kernel
theorem dX3_copy_67 : decode cX3_copy 67 = .ok (.invokevirtual 59, 3) := by decide +kernel
theorem dX3_copy_70 : decode cX3_copy 70 = .ok (.aload_n 0, 1) := by decide +kernel
theorem dX3_copy_71 : decode cX3_copy 71 = .ok (.getfield 41, 3) := by decide +kernel
theorem dX3_copy_74 : decode cX3_copy 74 = .ok (.aload_n 1, 1) := by decide +kernel
theorem dX3_copy_75 : decode cX3_copy 75 = .ok (.getfield 41, 3) := by decide +kernel
theorem dX3_copy_78 : decode cX3_copy 78 = .ok (.invokevirtual 59, 3) := by decide +kernel
theorem dX3_copy_81 : decode cX3_copy 81 = .ok (.aload_n 0, 1) := by decide +kernel
theorem dX3_copy_82 : decode cX3_copy 82 = .ok (.aload_n 1, 1) := by decide +kernel
theorem dX3_copy_83 : decode cX3_copy 83 = .ok (.getfield 74, 3) := by decide +kernel
theorem dX3_copy_86 : decode cX3_copy 86 = .ok (.putfield 74, 3) := by decide +kernel
theorem dX3_copy_89 : decode cX3_copy 89 = .ok (.aload_n 0, 1) := by decide +kernel
theorem dX3_copy_90 : decode cX3_copy 90 = .ok (.aload_n 1, 1) := by decide +kernel
theorem dX3_copy_91 : decode cX3_copy 91 = .ok (.getfield 78, 3) := by decide +kernel
theorem dX3_copy_94 : decode cX3_copy 94 = .ok (.putfield 78, 3) := by decide +kernel
theorem dX3_copy_97 : decode cX3_copy 97 = .ok (.aload_n 0, 1) := by decide +kernel
theorem dX3_copy_98 : decode cX3_copy 98 = .ok (.aload_n 1, 1) := by decide +kernel
theorem dX3_copy_99 : decode cX3_copy 99 = .ok (.getfield 81, 3) := by decide +kernel
theorem dX3_copy_102 : decode cX3_copy 102 = .ok (.putfield 81, 3) := by decide +kernel
theorem dX3_copy_105 : decode cX3_copy 105 = .ok (.aload_n 0, 1) := by decide +kernel
theorem dX3_copy_106 : decode cX3_copy 106 = .ok (.aload_n 1, 1) := by decide +kernel
theorem dX3_copy_107 : decode cX3_copy 107 = .ok (.getfield 84, 3) := by decide +kernel
theorem dX3_copy_110 : decode cX3_copy 110 = .ok (.putfield 84, 3) := by decide +kernel
theorem dX3_copy_113 : decode cX3_copy 113 = .ok (.return_, 1) := by decide +kernel
theorem dX3_hasOwner_0 : decode cX3_hasOwner 0 = .ok (.iload_n 1, 1) := by decide +kernel
theorem dX3_hasOwner_1 : decode cX3_hasOwner 1 = .ok (.ifCond .lt 15, 3) := by decide +kernel
theorem dX3_hasOwner_4 : decode cX3_hasOwner 4 = .ok (.iload_n 1, 1) := by decide +kernel
theorem dX3_hasOwner_5 : decode cX3_hasOwner 5 = .ok (.aload_n 0, 1) := by decide +kernel
theorem dX3_hasOwner_6 : decode cX3_hasOwner 6 = .ok (.getfield 74, 3) := by decide +kernel
theorem dX3_hasOwner_9 : decode cX3_hasOwner 9 = .ok (.if_icmp .ge 7, 3) := by decide +kernel
theorem dX3_hasOwner_12 : decode cX3_hasOwner 12 = .ok (.iconst 1, 1) := by decide +kernel
theorem dX3_hasOwner_13 : decode cX3_hasOwner 13 = .ok (.goto 4, 3) := by decide +kernel
theorem dX3_hasOwner_16 : decode cX3_hasOwner 16 = .ok (.iconst 0, 1) := by decide +kernel
theorem dX3_hasOwner_17 : decode cX3_hasOwner 17 = .ok (.ireturn, 1) := by decide +kernel
theorem dX3_purseOf_0 : decode cX3_purseOf 0 = .ok (.iload_n 1, 1) := by decide +kernel
theorem dX3_purseOf_1 : decode cX3_purseOf 1 = .ok (.ifCond .lt 21, 3) := by decide +kernel
theorem dX3_purseOf_4 : decode cX3_purseOf 4 = .ok (.iload_n 1, 1) := by decide +kernel
theorem dX3_purseOf_5 : decode cX3_purseOf 5 = .ok (.aload_n 0, 1) := by decide +kernel
theorem dX3_purseOf_6 : decode cX3_purseOf 6 = .ok (.getfield 34, 3) := by decide +kernel
theorem dX3_purseOf_9 : decode cX3_purseOf 9 = .ok (.arraylength, 1) := by decide +kernel
theorem dX3_purseOf_10 : decode cX3_purseOf 10 = .ok (.if_icmp .ge 12, 3) := by decide +kernel
theorem dX3_purseOf_13 : decode cX3_purseOf 13 = .ok (.aload_n 0, 1) := by decide +kernel
theorem dX3_purseOf_14 : decode cX3_purseOf 14 = .ok (.getfield 34, 3) := by decide +kernel
theorem dX3_purseOf_17 : decode cX3_purseOf 17 = .ok (.iload_n 1, 1) := by decide +kernel
theorem dX3_purseOf_18 : decode cX3_purseOf 18 = .ok (.laload, 1) := by decide +kernel
theorem dX3_purseOf_19 : decode cX3_purseOf 19 = .ok (.goto 4, 3) := by decide +kernel
theorem dX3_purseOf_22 : decode cX3_purseOf 22 = .ok (.lconst 0, 1) := by decide +kernel
theorem dX3_purseOf_23 : decode cX3_purseOf 23 = .ok (.lreturn, 1) := by decide +kernel
theorem dX3_earn_0 : decode cX3_earn 0 = .ok (.iload_n 1, 1) := by decide +kernel
theorem dX3_earn_1 : decode cX3_earn 1 = .ok (.ifCond .lt 22, 3) := by decide +kernel
theorem dX3_earn_4 : decode cX3_earn 4 = .ok (.iload_n 1, 1) := by decide +kernel
theorem dX3_earn_5 : decode cX3_earn 5 = .ok (.aload_n 0, 1) := by decide +kernel
theorem dX3_earn_6 : decode cX3_earn 6 = .ok (.getfield 34, 3) := by decide +kernel
theorem dX3_earn_9 : decode cX3_earn 9 = .ok (.arraylength, 1) := by decide +kernel
theorem dX3_earn_10 : decode cX3_earn 10 = .ok (.if_icmp .ge 13, 3) := by decide +kernel
theorem dX3_earn_13 : decode cX3_earn 13 = .ok (.aload_n 0, 1) := by decide +kernel
theorem dX3_earn_14 : decode cX3_earn 14 = .ok (.getfield 34, 3) := by decide +kernel
theorem dX3_earn_17 : decode cX3_earn 17 = .ok (.iload_n 1, 1) := by decide +kernel
theorem dX3_earn_18 : decode cX3_earn 18 = .ok (.dup2, 1) := by decide +kernel
theorem dX3_earn_19 : decode cX3_earn 19 = .ok (.laload, 1) := by decide +kernel
theorem dX3_earn_20 : decode cX3_earn 20 = .ok (.lload_n 2, 1) := by decide +kernel
theorem dX3_earn_21 : decode cX3_earn 21 = .ok (.ladd, 1) := by decide +kernel
theorem dX3_earn_22 : decode cX3_earn 22 = .ok (.lastore, 1) := by decide +kernel
theorem dX3_earn_23 : decode cX3_earn 23 = .ok (.return_, 1) := by decide +kernel
theorem dX3_mayGet_0 : decode cX3_mayGet 0 = .ok (.iload_n 2, 1) := by decide +kernel
theorem dX3_mayGet_1 : decode cX3_mayGet 1 = .ok (.ifCond .eq 27, 3) := by decide +kernel
theorem dX3_mayGet_4 : decode cX3_mayGet 4 = .ok (.aload_n 0, 1) := by decide +kernel
theorem dX3_mayGet_5 : decode cX3_mayGet 5 = .ok (.getfield 12, 3) := by decide +kernel
theorem dX3_mayGet_8 : decode cX3_mayGet 8 = .ok (.getfield 87, 3) := by decide +kernel
theorem dX3_mayGet_11 : decode cX3_mayGet 11 = .ok (.iload_n 1, 1) := by decide +kernel
theorem dX3_mayGet_12 : decode cX3_mayGet 12 = .ok (.invokevirtual 90, 3) := by decide +kernel
theorem dX3_mayGet_15 : decode cX3_mayGet 15 = .ok (.iload_n 2, 1) := by decide +kernel
theorem dX3_mayGet_16 : decode cX3_mayGet 16 = .ok (.iadd, 1) := by decide +kernel
theorem dX3_mayGet_17 : decode cX3_mayGet 17 = .ok (.aload_n 0, 1) := by decide +kernel
theorem dX3_mayGet_18 : decode cX3_mayGet 18 = .ok (.getfield 30, 3) := by decide +kernel
theorem dX3_mayGet_21 : decode cX3_mayGet 21 = .ok (.iconst 4, 1) := by decide +kernel
theorem dX3_mayGet_22 : decode cX3_mayGet 22 = .ok (.invokevirtual 90, 3) := by decide +kernel
theorem dX3_mayGet_25 : decode cX3_mayGet 25 = .ok (.if_icmp .gt 7, 3) := by decide +kernel
theorem dX3_mayGet_28 : decode cX3_mayGet 28 = .ok (.iconst 1, 1) := by decide +kernel
theorem dX3_mayGet_29 : decode cX3_mayGet 29 = .ok (.goto 4, 3) := by decide +kernel
theorem dX3_mayGet_32 : decode cX3_mayGet 32 = .ok (.iconst 0, 1) := by decide +kernel
theorem dX3_mayGet_33 : decode cX3_mayGet 33 = .ok (.ireturn, 1) := by decide +kernel
theorem dX3_taxOf_0 : decode cX3_taxOf 0 = .ok (.aload_n 0, 1) := by decide +kernel
theorem dX3_taxOf_1 : decode cX3_taxOf 1 = .ok (.getfield 12, 3) := by decide +kernel
theorem dX3_taxOf_4 : decode cX3_taxOf 4 = .ok (.getfield 87, 3) := by decide +kernel
theorem dX3_taxOf_7 : decode cX3_taxOf 7 = .ok (.iload_n 1, 1) := by decide +kernel
theorem dX3_taxOf_8 : decode cX3_taxOf 8 = .ok (.invokevirtual 90, 3) := by decide +kernel
theorem dX3_taxOf_11 : decode cX3_taxOf 11 = .ok (.bipush 9, 2) := by decide +kernel
theorem dX3_taxOf_13 : decode cX3_taxOf 13 = .ok (.iadd, 1) := by decide +kernel
theorem dX3_taxOf_14 : decode cX3_taxOf 14 = .ok (.bipush 10, 2) := by decide +kernel
theorem dX3_taxOf_16 : decode cX3_taxOf 16 = .ok (.idiv, 1) := by decide +kernel
theorem dX3_taxOf_17 : decode cX3_taxOf 17 = .ok (.istore_n 2, 1) := by decide +kernel
theorem dX3_taxOf_18 : decode cX3_taxOf 18 = .ok (.aload_n 0, 1) := by decide +kernel
theorem dX3_taxOf_19 : decode cX3_taxOf 19 = .ok (.getfield 12, 3) := by decide +kernel
theorem dX3_taxOf_22 : decode cX3_taxOf 22 = .ok (.getfield 94, 3) := by decide +kernel
theorem dX3_taxOf_25 : decode cX3_taxOf 25 = .ok (.iload_n 1, 1) := by decide +kernel
theorem dX3_taxOf_26 : decode cX3_taxOf 26 = .ok (.invokevirtual 90, 3) := by decide +kernel
theorem dX3_taxOf_29 : decode cX3_taxOf 29 = .ok (.aload_n 0, 1) := by decide +kernel
theorem dX3_taxOf_30 : decode cX3_taxOf 30 = .ok (.getfield 30, 3) := by decide +kernel
theorem dX3_taxOf_33 : decode cX3_taxOf 33 = .ok (.iconst 1, 1) := by decide +kernel
theorem dX3_taxOf_34 : decode cX3_taxOf 34 = .ok (.invokevirtual 90, 3) := by decide +kernel
theorem dX3_taxOf_37 : decode cX3_taxOf 37 = .ok (.imul, 1) := by decide +kernel
theorem dX3_taxOf_38 : decode cX3_taxOf 38 = .ok (.iload_n 2, 1) := by decide +kernel
theorem dX3_taxOf_39 : decode cX3_taxOf 39 = .ok (.aload_n 0, 1) := by decide +kernel
theorem dX3_taxOf_40 : decode cX3_taxOf 40 = .ok (.getfield 30, 3) := by decide +kernel
theorem dX3_taxOf_43 : decode cX3_taxOf 43 = .ok (.iconst 0, 1) := by decide +kernel
theorem dX3_taxOf_44 : decode cX3_taxOf 44 = .ok (.invokevirtual 90, 3) := by decide +kernel
theorem dX3_taxOf_47 : decode cX3_taxOf 47 = .ok (.imul, 1) := by decide +kernel
theorem dX3_taxOf_48 : decode cX3_taxOf 48 = .ok (.iadd, 1) := by decide +kernel
theorem dX3_taxOf_49 : decode cX3_taxOf 49 = .ok (.ireturn, 1) := by decide +kernel
theorem dX3_passDay_0 : decode cX3_passDay 0 = .ok (.iconst 0, 1) := by decide +kernel
theorem dX3_passDay_1 : decode cX3_passDay 1 = .ok (.istore_n 1, 1) := by decide +kernel
theorem dX3_passDay_2 : decode cX3_passDay 2 = .ok (.iload_n 1, 1) := by decide +kernel
theorem dX3_passDay_3 : decode cX3_passDay 3 = .ok (.aload_n 0, 1) := by decide +kernel
theorem dX3_passDay_4 : decode cX3_passDay 4 = .ok (.getfield 74, 3) := by decide +kernel
theorem dX3_passDay_7 : decode cX3_passDay 7 = .ok (.if_icmp .ge 24, 3) := by decide +kernel
theorem dX3_passDay_10 : decode cX3_passDay 10 = .ok (.aload_n 0, 1) := by decide +kernel
theorem dX3_passDay_11 : decode cX3_passDay 11 = .ok (.iload_n 1, 1) := by decide +kernel
theorem dX3_passDay_12 : decode cX3_passDay 12 = .ok (.aload_n 0, 1) := by decide +kernel
theorem dX3_passDay_13 : decode cX3_passDay 13 = .ok (.iload_n 1, 1) := by decide +kernel
theorem dX3_passDay_14 : decode cX3_passDay 14 = .ok (.invokevirtual 97, 3) := by decide +kernel
theorem dX3_passDay_17 : decode cX3_passDay 17 = .ok (.invokevirtual 100, 3) := by decide +kernel
theorem dX3_passDay_20 : decode cX3_passDay 20 = .ok (.aload_n 0, 1) := by decide +kernel
theorem dX3_passDay_21 : decode cX3_passDay 21 = .ok (.iload_n 1, 1) := by decide +kernel
theorem dX3_passDay_22 : decode cX3_passDay 22 = .ok (.invokevirtual 103, 3) := by decide +kernel
theorem dX3_passDay_25 : decode cX3_passDay 25 = .ok (.iinc 1 1, 3) := by decide +kernel
theorem dX3_passDay_28 : decode cX3_passDay 28 = .ok (.goto (-26), 3) := by decide +kernel
theorem dX3_passDay_31 : decode cX3_passDay 31 = .ok (.aload_n 0, 1) := by decide +kernel
theorem dX3_passDay_32 : decode cX3_passDay 32 = .ok (.dup, 1) := by decide +kernel
theorem dX3_passDay_33 : decode cX3_passDay 33 = .ok (.getfield 78, 3) := by decide +kernel
theorem dX3_passDay_36 : decode cX3_passDay 36 = .ok (.iconst 1, 1) := by decide +kernel
theorem dX3_passDay_37 : decode cX3_passDay 37 = .ok (.iadd, 1) := by decide +kernel
theorem dX3_passDay_38 : decode cX3_passDay 38 = .ok (.putfield 78, 3) := by decide +kernel
theorem dX3_passDay_41 : decode cX3_passDay 41 = .ok (.return_, 1) := by decide +kernel
theorem dX3_chargeTax_0 : decode cX3_chargeTax 0 = .ok (.aload_n 0, 1) := by decide +kernel
theorem dX3_chargeTax_1 : decode cX3_chargeTax 1 = .ok (.iload_n 1, 1) := by decide +kernel
theorem dX3_chargeTax_2 : decode cX3_chargeTax 2 = .ok (.iload_n 2, 1) := by decide +kernel
theorem dX3_chargeTax_3 : decode cX3_chargeTax 3 = .ok (.ineg, 1) := by decide +kernel
theorem dX3_chargeTax_4 : decode cX3_chargeTax 4 = .ok (.i2l, 1) := by decide +kernel
theorem dX3_chargeTax_5 : decode cX3_chargeTax 5 = .ok (.invokevirtual 106, 3) := by decide +kernel
theorem dX3_chargeTax_8 : decode cX3_chargeTax 8 = .ok (.aload_n 0, 1) := by decide +kernel
theorem dX3_chargeTax_9 : decode cX3_chargeTax 9 = .ok (.getfield 38, 3) := by decide +kernel
theorem dX3_chargeTax_12 : decode cX3_chargeTax 12 = .ok (.iload_n 1, 1) := by decide +kernel
theorem dX3_chargeTax_13 : decode cX3_chargeTax 13 = .ok (.iload_n 2, 1) := by decide +kernel
theorem dX3_chargeTax_14 : decode cX3_chargeTax 14 = .ok (.invokevirtual 110, 3) := by decide +kernel
theorem dX3_chargeTax_17 : decode cX3_chargeTax 17 = .ok (.return_, 1) := by decide +kernel
theorem dX3_loseRanges_0 : decode cX3_loseRanges 0 = .ok (.aload_n 0, 1) := by decide +kernel
theorem dX3_loseRanges_1 : decode cX3_loseRanges 1 = .ok (.getfield 12, 3) := by decide +kernel
theorem dX3_loseRanges_4 : decode cX3_loseRanges 4 = .ok (.getfield 94, 3) := by decide +kernel
theorem dX3_loseRanges_7 : decode cX3_loseRanges 7 = .ok (.iload_n 1, 1) := by decide +kernel
theorem dX3_loseRanges_8 : decode cX3_loseRanges 8 = .ok (.invokevirtual 90, 3) := by decide +kernel
theorem dX3_loseRanges_11 : decode cX3_loseRanges 11 = .ok (.istore_n 2, 1) := by decide +kernel
theorem dX3_loseRanges_12 : decode cX3_loseRanges 12 = .ok (.iload_n 2, 1) := by decide +kernel
theorem dX3_loseRanges_13 : decode cX3_loseRanges 13 = .ok (.ifCond .le 75, 3) := by decide +kernel
theorem dX3_loseRanges_16 : decode cX3_loseRanges 16 = .ok (.aload_n 0, 1) := by decide +kernel
theorem dX3_loseRanges_17 : decode cX3_loseRanges 17 = .ok (.iload_n 1, 1) := by decide +kernel
theorem dX3_loseRanges_18 : decode cX3_loseRanges 18 = .ok (.invokevirtual 113, 3) := by decide +kernel
theorem dX3_loseRanges_21 : decode cX3_loseRanges 21 = .ok (.lconst 0, 1) := by decide +kernel
theorem dX3_loseRanges_22 : decode cX3_loseRanges 22 = .ok (.lcmp, 1) := by decide +kernel
theorem dX3_loseRanges_23 : decode cX3_loseRanges 23 = .ok (.ifCond .ge 65, 3) := by decide +kernel
theorem dX3_loseRanges_26 : decode cX3_loseRanges 26 = .ok (.aload_n 0, 1) := by decide +kernel
theorem dX3_loseRanges_27 : decode cX3_loseRanges 27 = .ok (.getfield 12, 3) := by decide +kernel
theorem dX3_loseRanges_30 : decode cX3_loseRanges 30 = .ok (.iload_n 1, 1) := by decide +kernel
theorem dX3_loseRanges_31 : decode cX3_loseRanges 31 = .ok (.invokevirtual 117, 3) := by decide +kernel
theorem dX3_loseRanges_34 : decode cX3_loseRanges 34 = .ok (.istore_n 3, 1) := by decide +kernel
theorem dX3_loseRanges_35 : decode cX3_loseRanges 35 = .ok (.aload_n 0, 1) := by decide +kernel
theorem dX3_loseRanges_36 : decode cX3_loseRanges 36 = .ok (.iload_n 1, 1) := by decide +kernel
theorem dX3_loseRanges_37 : decode cX3_loseRanges 37 = .ok (.invokevirtual 97, 3) := by decide +kernel
theorem dX3_loseRanges_40 : decode cX3_loseRanges 40 = .ok (.istore 4, 2) := by decide +kernel
theorem dX3_loseRanges_42 : decode cX3_loseRanges 42 = .ok (.aload_n 0, 1) := by decide +kernel
theorem dX3_loseRanges_43 : decode cX3_loseRanges 43 = .ok (.getfield 41, 3) := by decide +kernel
theorem dX3_loseRanges_46 : decode cX3_loseRanges 46 = .ok (.iload_n 1, 1) := by decide +kernel
theorem dX3_loseRanges_47 : decode cX3_loseRanges 47 = .ok (.aload_n 0, 1) := by decide +kernel
theorem dX3_loseRanges_48 : decode cX3_loseRanges 48 = .ok (.getfield 12, 3) := by decide +kernel
theorem dX3_loseRanges_51 : decode cX3_loseRanges 51 = .ok (.getfield 120, 3) := by decide +kernel
theorem dX3_loseRanges_54 : decode cX3_loseRanges 54 = .ok (.iload_n 3, 1) := by decide +kernel
theorem dX3_loseRanges_55 : decode cX3_loseRanges 55 = .ok (.invokevirtual 90, 3) := by decide +kernel
theorem dX3_loseRanges_58 : decode cX3_loseRanges 58 = .ok (.invokevirtual 110, 3) := by decide +kernel
theorem dX3_loseRanges_61 : decode cX3_loseRanges 61 = .ok (.aload_n 0, 1) := by decide +kernel
theorem dX3_loseRanges_62 : decode cX3_loseRanges 62 = .ok (.getfield 12, 3) := by decide +kernel
theorem dX3_loseRanges_65 : decode cX3_loseRanges 65 = .ok (.iload_n 3, 1) := by decide +kernel
theorem dX3_loseRanges_66 : decode cX3_loseRanges 66 = .ok (.invokevirtual 123, 3) := by decide +kernel
theorem dX3_loseRanges_69 : decode cX3_loseRanges 69 = .ok (.aload_n 0, 1) := by decide +kernel
theorem dX3_loseRanges_70 : decode cX3_loseRanges 70 = .ok (.iload_n 1, 1) := by decide +kernel
theorem dX3_loseRanges_71 : decode cX3_loseRanges 71 = .ok (.aload_n 0, 1) := by decide +kernel
theorem dX3_loseRanges_72 : decode cX3_loseRanges 72 = .ok (.iload_n 1, 1) := by decide +kernel
theorem dX3_loseRanges_73 : decode cX3_loseRanges 73 = .ok (.invokevirtual 97, 3) := by decide +kernel
theorem dX3_loseRanges_76 : decode cX3_loseRanges 76 = .ok (.iload 4, 2) := by decide +kernel
theorem dX3_loseRanges_78 : decode cX3_loseRanges 78 = .ok (.isub, 1) := by decide +kernel
theorem dX3_loseRanges_79 : decode cX3_loseRanges 79 = .ok (.invokevirtual 100, 3) := by decide +kernel
theorem dX3_loseRanges_82 : decode cX3_loseRanges 82 = .ok (.iinc 2 (-1), 3) := by decide +kernel
theorem dX3_loseRanges_85 : decode cX3_loseRanges 85 = .ok (.goto (-73), 3) := by decide +kernel
theorem dX3_loseRanges_88 : decode cX3_loseRanges 88 = .ok (.return_, 1) := by decide +kernel
theorem dX3_daysToLoss_0 : decode cX3_daysToLoss 0 = .ok (.aload_n 0, 1) := by decide +kernel
theorem dX3_daysToLoss_1 : decode cX3_daysToLoss 1 = .ok (.iload_n 1, 1) := by decide +kernel
theorem dX3_daysToLoss_2 : decode cX3_daysToLoss 2 = .ok (.invokevirtual 97, 3) := by decide +kernel
theorem dX3_daysToLoss_5 : decode cX3_daysToLoss 5 = .ok (.istore_n 2, 1) := by decide +kernel
theorem dX3_daysToLoss_6 : decode cX3_daysToLoss 6 = .ok (.aload_n 0, 1) := by decide +kernel
theorem dX3_daysToLoss_7 : decode cX3_daysToLoss 7 = .ok (.iload_n 1, 1) := by decide +kernel
theorem dX3_daysToLoss_8 : decode cX3_daysToLoss 8 = .ok (.invokevirtual 113, 3) := by decide +kernel
theorem dX3_daysToLoss_11 : decode cX3_daysToLoss 11 = .ok (.lstore_n 3, 1) := by decide +kernel
theorem dX3_daysToLoss_12 : decode cX3_daysToLoss 12 = .ok (.iconst 1, 1) := by decide +kernel
theorem dX3_daysToLoss_13 : decode cX3_daysToLoss 13 = .ok (.istore 5, 2) := by decide +kernel
theorem dX3_daysToLoss_15 : decode cX3_daysToLoss 15 = .ok (.iload 5, 2) := by decide +kernel
theorem dX3_daysToLoss_17 : decode cX3_daysToLoss 17 = .ok (.sipush 300, 3) := by decide +kernel
theorem dX3_daysToLoss_20 : decode cX3_daysToLoss 20 = .ok (.if_icmp .gt 37, 3) := by decide +kernel
theorem dX3_daysToLoss_23 : decode cX3_daysToLoss 23 = .ok (.aload_n 0, 1) := by decide +kernel
theorem dX3_daysToLoss_24 : decode cX3_daysToLoss 24 = .ok (.getfield 12, 3) := by decide +kernel
theorem dX3_daysToLoss_27 : decode cX3_daysToLoss 27 = .ok (.getfield 94, 3) := by decide +kernel
theorem dX3_daysToLoss_30 : decode cX3_daysToLoss 30 = .ok (.iload_n 1, 1) := by decide +kernel
theorem dX3_daysToLoss_31 : decode cX3_daysToLoss 31 = .ok (.invokevirtual 90, 3) := by decide +kernel
theorem dX3_daysToLoss_34 : decode cX3_daysToLoss 34 = .ok (.ifCond .le 23, 3) := by decide +kernel
theorem dX3_daysToLoss_37 : decode cX3_daysToLoss 37 = .ok (.lload_n 3, 1) := by decide +kernel
theorem dX3_daysToLoss_38 : decode cX3_daysToLoss 38 = .ok (.iload_n 2, 1) := by decide +kernel
theorem dX3_daysToLoss_39 : decode cX3_daysToLoss 39 = .ok (.i2l, 1) := by decide +kernel
theorem dX3_daysToLoss_40 : decode cX3_daysToLoss 40 = .ok (.lsub, 1) := by decide +kernel
theorem dX3_daysToLoss_41 : decode cX3_daysToLoss 41 = .ok (.lstore_n 3, 1) := by decide +kernel
theorem dX3_daysToLoss_42 : decode cX3_daysToLoss 42 = .ok (.lload_n 3, 1) := by decide +kernel
theorem dX3_daysToLoss_43 : decode cX3_daysToLoss 43 = .ok (.lconst 0, 1) := by decide +kernel
theorem dX3_daysToLoss_44 : decode cX3_daysToLoss 44 = .ok (.lcmp, 1) := by decide +kernel
theorem dX3_daysToLoss_45 : decode cX3_daysToLoss 45 = .ok (.ifCond .ge 6, 3) := by decide +kernel
theorem dX3_daysToLoss_48 : decode cX3_daysToLoss 48 = .ok (.iload 5, 2) := by decide +kernel
theorem dX3_daysToLoss_50 : decode cX3_daysToLoss 50 = .ok (.ireturn, 1) := by decide +kernel
theorem dX3_daysToLoss_51 : decode cX3_daysToLoss 51 = .ok (.iinc 5 1, 3) := by decide +kernel
theorem dX3_daysToLoss_54 : decode cX3_daysToLoss 54 = .ok (.goto (-39), 3) := by decide +kernel
theorem dX3_daysToLoss_57 : decode cX3_daysToLoss 57 = .ok (.bipush (-6), 2) := by decide +kernel
theorem dX3_daysToLoss_59 : decode cX3_daysToLoss 59 = .ok (.ireturn, 1) := by decide +kernel
theorem dX3_carryTransfer_0 : decode cX3_carryTransfer 0 = .ok (.aload_n 0, 1) := by decide +kernel
theorem dX3_carryTransfer_1 : decode cX3_carryTransfer 1 = .ok (.getfield 21, 3) := by decide +kernel
theorem dX3_carryTransfer_4 : decode cX3_carryTransfer 4 = .ok (.iload_n 1, 1) := by decide +kernel
theorem dX3_carryTransfer_5 : decode cX3_carryTransfer 5 = .ok (.iconst 0, 1) := by decide +kernel
theorem dX3_carryTransfer_6 : decode cX3_carryTransfer 6 = .ok (.invokevirtual 126, 3) := by decide +kernel
theorem dX3_carryTransfer_9 : decode cX3_carryTransfer 9 = .ok (.istore_n 3, 1) := by decide +kernel
theorem dX3_carryTransfer_10 : decode cX3_carryTransfer 10 = .ok (.aload_n 0, 1) := by decide +kernel
theorem dX3_carryTransfer_11 : decode cX3_carryTransfer 11 = .ok (.getfield 21, 3) := by decide +kernel
theorem dX3_carryTransfer_14 : decode cX3_carryTransfer 14 = .ok (.iload_n 1, 1) := by decide +kernel
theorem dX3_carryTransfer_15 : decode cX3_carryTransfer 15 = .ok (.iconst 1, 1) := by decide +kernel
theorem dX3_carryTransfer_16 : decode cX3_carryTransfer 16 = .ok (.invokevirtual 126, 3) := by decide +kernel
theorem dX3_carryTransfer_19 : decode cX3_carryTransfer 19 = .ok (.istore 4, 2) := by decide +kernel
theorem dX3_carryTransfer_21 : decode cX3_carryTransfer 21 = .ok (.aload_n 0, 1) := by decide +kernel
theorem dX3_carryTransfer_22 : decode cX3_carryTransfer 22 = .ok (.getfield 21, 3) := by decide +kernel
theorem dX3_carryTransfer_25 : decode cX3_carryTransfer 25 = .ok (.iload_n 1, 1) := by decide +kernel
theorem dX3_carryTransfer_26 : decode cX3_carryTransfer 26 = .ok (.iconst 2, 1) := by decide +kernel
theorem dX3_carryTransfer_27 : decode cX3_carryTransfer 27 = .ok (.invokevirtual 126, 3) := by decide +kernel
theorem dX3_carryTransfer_30 : decode cX3_carryTransfer 30 = .ok (.istore 5, 2) := by decide +kernel
theorem dX3_carryTransfer_32 : decode cX3_carryTransfer 32 = .ok (.aload_n 0, 1) := by decide +kernel
theorem dX3_carryTransfer_33 : decode cX3_carryTransfer 33 = .ok (.getfield 21, 3) := by decide +kernel
theorem dX3_carryTransfer_36 : decode cX3_carryTransfer 36 = .ok (.iload_n 1, 1) := by decide +kernel
theorem dX3_carryTransfer_37 : decode cX3_carryTransfer 37 = .ok (.iconst 3, 1) := by decide +kernel
theorem dX3_carryTransfer_38 : decode cX3_carryTransfer 38 = .ok (.invokevirtual 126, 3) := by decide +kernel
theorem dX3_carryTransfer_41 : decode cX3_carryTransfer 41 = .ok (.istore 6, 2) := by decide +kernel
theorem dX3_carryTransfer_43 : decode cX3_carryTransfer 43 = .ok (.aload_n 0, 1) := by decide +kernel
theorem dX3_carryTransfer_44 : decode cX3_carryTransfer 44 = .ok (.getfield 21, 3) := by decide +kernel
theorem dX3_carryTransfer_47 : decode cX3_carryTransfer 47 = .ok (.iload_n 1, 1) := by decide +kernel
theorem dX3_carryTransfer_48 : decode cX3_carryTransfer 48 = .ok (.iconst 4, 1) := by decide +kernel
theorem dX3_carryTransfer_49 : decode cX3_carryTransfer 49 = .ok (.invokevirtual 126, 3) := by decide +kernel
theorem dX3_carryTransfer_52 : decode cX3_carryTransfer 52 = .ok (.istore 7, 2) := by decide +kernel
theorem dX3_carryTransfer_54 : decode cX3_carryTransfer 54 = .ok (.aload_n 0, 1) := by decide +kernel
theorem dX3_carryTransfer_55 : decode cX3_carryTransfer 55 = .ok (.getfield 30, 3) := by decide +kernel
theorem dX3_carryTransfer_58 : decode cX3_carryTransfer 58 = .ok (.iconst 2, 1) := by decide +kernel
theorem dX3_carryTransfer_59 : decode cX3_carryTransfer 59 = .ok (.invokevirtual 90, 3) := by decide +kernel
theorem dX3_carryTransfer_62 : decode cX3_carryTransfer 62 = .ok (.istore 8, 2) := by decide +kernel
theorem dX3_carryTransfer_64 : decode cX3_carryTransfer 64 = .ok (.aload_n 0, 1) := by decide +kernel
theorem dX3_carryTransfer_65 : decode cX3_carryTransfer 65 = .ok (.getfield 12, 3) := by decide +kernel
theorem dX3_carryTransfer_68 : decode cX3_carryTransfer 68 = .ok (.iload_n 3, 1) := by decide +kernel
theorem dX3_carryTransfer_69 : decode cX3_carryTransfer 69 = .ok (.iload 5, 2) := by decide +kernel
theorem dX3_carryTransfer_71 : decode cX3_carryTransfer 71 = .ok (.iload 6, 2) := by decide +kernel
theorem dX3_carryTransfer_73 : decode cX3_carryTransfer 73 = .ok (.invokevirtual 129, 3) := by decide +kernel
theorem dX3_carryTransfer_76 : decode cX3_carryTransfer 76 = .ok (.iload 6, 2) := by decide +kernel
theorem dX3_carryTransfer_78 : decode cX3_carryTransfer 78 = .ok (.if_icmp .ne 30, 3) := by decide +kernel
theorem dX3_carryTransfer_81 : decode cX3_carryTransfer 81 = .ok (.aload_n 0, 1) := by decide +kernel
theorem dX3_carryTransfer_82 : decode cX3_carryTransfer 82 = .ok (.iload 4, 2) := by decide +kernel
theorem dX3_carryTransfer_84 : decode cX3_carryTransfer 84 = .ok (.invokevirtual 113, 3) := by decide +kernel
theorem dX3_carryTransfer_87 : decode cX3_carryTransfer 87 = .ok (.iload 7, 2) := by decide +kernel
theorem dX3_carryTransfer_89 : decode cX3_carryTransfer 89 = .ok (.iload 8, 2) := by decide +kernel
theorem dX3_carryTransfer_91 : decode cX3_carryTransfer 91 = .ok (.iadd, 1) := by decide +kernel
theorem dX3_carryTransfer_92 : decode cX3_carryTransfer 92 = .ok (.i2l, 1) := by decide +kernel
theorem dX3_carryTransfer_93 : decode cX3_carryTransfer 93 = .ok (.lcmp, 1) := by decide +kernel
theorem dX3_carryTransfer_94 : decode cX3_carryTransfer 94 = .ok (.ifCond .lt 14, 3) := by decide +kernel
theorem dX3_carryTransfer_97 : decode cX3_carryTransfer 97 = .ok (.aload_n 0, 1) := by decide +kernel
theorem dX3_carryTransfer_98 : decode cX3_carryTransfer 98 = .ok (.iload 4, 2) := by decide +kernel
theorem dX3_carryTransfer_100 : decode cX3_carryTransfer 100 = .ok (.iload 6, 2) := by decide +kernel
theorem dX3_carryTransfer_102 : decode cX3_carryTransfer 102 = .ok (.invokevirtual 133, 3) := by decide +kernel
theorem dX3_carryTransfer_105 : decode cX3_carryTransfer 105 = .ok (.ifCond .ne 5, 3) := by decide +kernel
theorem dX3_carryTransfer_108 : decode cX3_carryTransfer 108 = .ok (.iconst 0, 1) := by decide +kernel
theorem dX3_carryTransfer_109 : decode cX3_carryTransfer 109 = .ok (.ireturn, 1) := by decide +kernel
theorem dX3_carryTransfer_110 : decode cX3_carryTransfer 110 = .ok (.aload_n 2, 1) := by decide +kernel
theorem dX3_carryTransfer_111 : decode cX3_carryTransfer 111 = .ok (.aload_n 0, 1) := by decide +kernel
theorem dX3_carryTransfer_112 : decode cX3_carryTransfer 112 = .ok (.getfield 12, 3) := by decide +kernel
theorem dX3_carryTransfer_115 : decode cX3_carryTransfer 115 = .ok (.iload 4, 2) := by decide +kernel
theorem dX3_carryTransfer_117 : decode cX3_carryTransfer 117 = .ok (.iload 5, 2) := by decide +kernel
theorem dX3_carryTransfer_119 : decode cX3_carryTransfer 119 = .ok (.iload 6, 2) := by decide +kernel
theorem dX3_carryTransfer_121 : decode cX3_carryTransfer 121 = .ok (.invokevirtual 137, 3) := by decide +kernel
theorem dX3_carryTransfer_124 : decode cX3_carryTransfer 124 = .ok (.aload_n 2, 1) := by decide +kernel
theorem dX3_carryTransfer_125 : decode cX3_carryTransfer 125 = .ok (.getfield 141, 3) := by decide +kernel
theorem dX3_carryTransfer_128 : decode cX3_carryTransfer 128 = .ok (.bipush 40, 2) := by decide +kernel
theorem dX3_carryTransfer_130 : decode cX3_carryTransfer 130 = .ok (.if_icmp .gt 36, 3) := by decide +kernel
theorem dX3_carryTransfer_133 : decode cX3_carryTransfer 133 = .ok (.aload_n 2, 1) := by decide +kernel
theorem dX3_carryTransfer_134 : decode cX3_carryTransfer 134 = .ok (.iload_n 3, 1) := by decide +kernel
theorem dX3_carryTransfer_135 : decode cX3_carryTransfer 135 = .ok (.aload_n 0, 1) := by decide +kernel
theorem dX3_carryTransfer_136 : decode cX3_carryTransfer 136 = .ok (.getfield 30, 3) := by decide +kernel
theorem dX3_carryTransfer_139 : decode cX3_carryTransfer 139 = .ok (.iconst 3, 1) := by decide +kernel
theorem dX3_carryTransfer_140 : decode cX3_carryTransfer 140 = .ok (.invokevirtual 90, 3) := by decide +kernel
theorem dX3_carryTransfer_143 : decode cX3_carryTransfer 143 = .ok (.invokevirtual 144, 3) := by decide +kernel
theorem dX3_carryTransfer_146 : decode cX3_carryTransfer 146 = .ok (.ifCond .ne 20, 3) := by decide +kernel
theorem dX3_carryTransfer_149 : decode cX3_carryTransfer 149 = .ok (.aload_n 2, 1) := by decide +kernel
theorem dX3_carryTransfer_150 : decode cX3_carryTransfer 150 = .ok (.iload 4, 2) := by decide +kernel
theorem dX3_carryTransfer_152 : decode cX3_carryTransfer 152 = .ok (.aload_n 0, 1) := by decide +kernel
theorem dX3_carryTransfer_153 : decode cX3_carryTransfer 153 = .ok (.getfield 30, 3) := by decide +kernel
theorem dX3_carryTransfer_156 : decode cX3_carryTransfer 156 = .ok (.iconst 3, 1) := by decide +kernel
theorem dX3_carryTransfer_157 : decode cX3_carryTransfer 157 = .ok (.invokevirtual 90, 3) := by decide +kernel
theorem dX3_carryTransfer_160 : decode cX3_carryTransfer 160 = .ok (.invokevirtual 144, 3) := by decide +kernel
theorem dX3_carryTransfer_163 : decode cX3_carryTransfer 163 = .ok (.ifCond .eq 5, 3) := by decide +kernel
theorem dX3_carryTransfer_166 : decode cX3_carryTransfer 166 = .ok (.iconst 0, 1) := by decide +kernel
theorem dX3_carryTransfer_167 : decode cX3_carryTransfer 167 = .ok (.ireturn, 1) := by decide +kernel
theorem dX3_carryTransfer_168 : decode cX3_carryTransfer 168 = .ok (.aload_n 0, 1) := by decide +kernel
theorem dX3_carryTransfer_169 : decode cX3_carryTransfer 169 = .ok (.getfield 12, 3) := by decide +kernel
theorem dX3_carryTransfer_172 : decode cX3_carryTransfer 172 = .ok (.aload_n 2, 1) := by decide +kernel
theorem dX3_carryTransfer_173 : decode cX3_carryTransfer 173 = .ok (.invokevirtual 52, 3) := by decide +kernel
theorem dX3_carryTransfer_176 : decode cX3_carryTransfer 176 = .ok (.aload_n 0, 1) := by decide +kernel
theorem dX3_carryTransfer_177 : decode cX3_carryTransfer 177 = .ok (.iload 4, 2) := by decide +kernel
theorem dX3_carryTransfer_179 : decode cX3_carryTransfer 179 = .ok (.iload 7, 2) := by decide +kernel
theorem dX3_carryTransfer_181 : decode cX3_carryTransfer 181 = .ok (.ineg, 1) := by decide +kernel
theorem dX3_carryTransfer_182 : decode cX3_carryTransfer 182 = .ok (.iload 8, 2) := by decide +kernel
theorem dX3_carryTransfer_184 : decode cX3_carryTransfer 184 = .ok (.isub, 1) := by decide +kernel
theorem dX3_carryTransfer_185 : decode cX3_carryTransfer 185 = .ok (.i2l, 1) := by decide +kernel
theorem dX3_carryTransfer_186 : decode cX3_carryTransfer 186 = .ok (.invokevirtual 106, 3) := by decide +kernel
theorem dX3_carryTransfer_189 : decode cX3_carryTransfer 189 = .ok (.aload_n 0, 1) := by decide +kernel
theorem dX3_carryTransfer_190 : decode cX3_carryTransfer 190 = .ok (.iload_n 3, 1) := by decide +kernel
theorem dX3_carryTransfer_191 : decode cX3_carryTransfer 191 = .ok (.iload 7, 2) := by decide +kernel
theorem dX3_carryTransfer_193 : decode cX3_carryTransfer 193 = .ok (.i2l, 1) := by decide +kernel
theorem dX3_carryTransfer_194 : decode cX3_carryTransfer 194 = .ok (.invokevirtual 106, 3) := by decide +kernel
theorem dX3_carryTransfer_197 : decode cX3_carryTransfer 197 = .ok (.aload_n 0, 1) := by decide +kernel
theorem dX3_carryTransfer_198 : decode cX3_carryTransfer 198 = .ok (.dup, 1) := by decide +kernel
theorem dX3_carryTransfer_199 : decode cX3_carryTransfer 199 = .ok (.getfield 84, 3) := by decide +kernel
theorem dX3_carryTransfer_202 : decode cX3_carryTransfer 202 = .ok (.iload 8, 2) := by decide +kernel
theorem dX3_carryTransfer_204 : decode cX3_carryTransfer 204 = .ok (.iadd, 1) := by decide +kernel
theorem dX3_carryTransfer_205 : decode cX3_carryTransfer 205 = .ok (.putfield 84, 3) := by decide +kernel
theorem dX3_carryTransfer_208 : decode cX3_carryTransfer 208 = .ok (.iconst 1, 1) := by decide +kernel
theorem dX3_carryTransfer_209 : decode cX3_carryTransfer 209 = .ok (.ireturn, 1) := by decide +kernel
theorem dX4_init_0 : decode cX4_init 0 = .ok (.aload_n 0, 1) := by decide +kernel
theorem dX4_init_1 : decode cX4_init 1 = .ok (.invokespecial 1, 3) := by decide +kernel
theorem dX4_init_4 : decode cX4_init 4 = .ok (.aload_n 0, 1) := by decide +kernel
theorem dX4_init_5 : decode cX4_init 5 = .ok (.iload_n 1, 1) := by decide +kernel
theorem dX4_init_6 : decode cX4_init 6 = .ok (.iconst 0, 1) := by decide +kernel
theorem dX4_init_7 : decode cX4_init 7 = .ok (.invokestatic 7, 3) := by decide +kernel
theorem dX4_init_10 : decode cX4_init 10 = .ok (.newarray .int, 2) := by decide +kernel
theorem dX4_init_12 : decode cX4_init 12 = .ok (.putfield 13, 3) := by decide +kernel
theorem dX4_init_15 : decode cX4_init 15 = .ok (.return_, 1) := by decide +kernel
theorem dX4_at_0 : decode cX4_at 0 = .ok (.iload_n 1, 1) := by decide +kernel
theorem dX4_at_1 : decode cX4_at 1 = .ok (.ifCond .lt 21, 3) := by decide +kernel
theorem dX4_at_4 : decode cX4_at 4 = .ok (.iload_n 1, 1) := by decide +kernel
theorem dX4_at_5 : decode cX4_at 5 = .ok (.aload_n 0, 1) := by decide +kernel
theorem dX4_at_6 : decode cX4_at 6 = .ok (.getfield 13, 3) := by decide +kernel
theorem dX4_at_9 : decode cX4_at 9 = .ok (.arraylength, 1) := by decide +kernel
theorem dX4_at_10 : decode cX4_at 10 = .ok (.if_icmp .ge 12, 3) := by decide +kernel
theorem dX4_at_13 : decode cX4_at 13 = .ok (.aload_n 0, 1) := by decide +kernel
theorem dX4_at_14 : decode cX4_at 14 = .ok (.getfield 13, 3) := by decide +kernel
theorem dX4_at_17 : decode cX4_at 17 = .ok (.iload_n 1, 1) := by decide +kernel
theorem dX4_at_18 : decode cX4_at 18 = .ok (.iaload, 1) := by decide +kernel
theorem dX4_at_19 : decode cX4_at 19 = .ok (.goto 4, 3) := by decide +kernel
theorem dX4_at_22 : decode cX4_at 22 = .ok (.iconst 0, 1) := by decide +kernel
theorem dX4_at_23 : decode cX4_at 23 = .ok (.ireturn, 1) := by decide +kernel
theorem dX4_store_0 : decode cX4_store 0 = .ok (.iload_n 1, 1) := by decide +kernel
theorem dX4_store_1 : decode cX4_store 1 = .ok (.ifCond .lt 19, 3) := by decide +kernel
theorem dX4_store_4 : decode cX4_store 4 = .ok (.iload_n 1, 1) := by decide +kernel
theorem dX4_store_5 : decode cX4_store 5 = .ok (.aload_n 0, 1) := by decide +kernel
theorem dX4_store_6 : decode cX4_store 6 = .ok (.getfield 13, 3) := by decide +kernel
theorem dX4_store_9 : decode cX4_store 9 = .ok (.arraylength, 1) := by decide +kernel
theorem dX4_store_10 : decode cX4_store 10 = .ok (.if_icmp .ge 10, 3) := by decide +kernel
theorem dX4_store_13 : decode cX4_store 13 = .ok (.aload_n 0, 1) := by decide +kernel
theorem dX4_store_14 : decode cX4_store 14 = .ok (.getfield 13, 3) := by decide +kernel
theorem dX4_store_17 : decode cX4_store 17 = .ok (.iload_n 1, 1) := by decide +kernel
theorem dX4_store_18 : decode cX4_store 18 = .ok (.iload_n 2, 1) := by decide +kernel
theorem dX4_store_19 : decode cX4_store 19 = .ok (.iastore, 1) := by decide +kernel
theorem dX4_store_20 : decode cX4_store 20 = .ok (.return_, 1) := by decide +kernel
theorem dX4_add_0 : decode cX4_add 0 = .ok (.iload_n 1, 1) := by decide +kernel
theorem dX4_add_1 : decode cX4_add 1 = .ok (.ifCond .lt 22, 3) := by decide +kernel
theorem dX4_add_4 : decode cX4_add 4 = .ok (.iload_n 1, 1) := by decide +kernel
theorem dX4_add_5 : decode cX4_add 5 = .ok (.aload_n 0, 1) := by decide +kernel
theorem dX4_add_6 : decode cX4_add 6 = .ok (.getfield 13, 3) := by decide +kernel
theorem dX4_add_9 : decode cX4_add 9 = .ok (.arraylength, 1) := by decide +kernel
theorem dX4_add_10 : decode cX4_add 10 = .ok (.if_icmp .ge 13, 3) := by decide +kernel
theorem dX4_add_13 : decode cX4_add 13 = .ok (.aload_n 0, 1) := by decide +kernel
theorem dX4_add_14 : decode cX4_add 14 = .ok (.getfield 13, 3) := by decide +kernel
theorem dX4_add_17 : decode cX4_add 17 = .ok (.iload_n 1, 1) := by decide +kernel
theorem dX4_add_18 : decode cX4_add 18 = .ok (.dup2, 1) := by decide +kernel
theorem dX4_add_19 : decode cX4_add 19 = .ok (.iaload, 1) := by decide +kernel
theorem dX4_add_20 : decode cX4_add 20 = .ok (.iload_n 2, 1) := by decide +kernel
theorem dX4_add_21 : decode cX4_add 21 = .ok (.iadd, 1) := by decide +kernel
theorem dX4_add_22 : decode cX4_add 22 = .ok (.iastore, 1) := by decide +kernel
theorem dX4_add_23 : decode cX4_add 23 = .ok (.return_, 1) := by decide +kernel
theorem dX4_clear_0 : decode cX4_clear 0 = .ok (.iconst 0, 1) := by decide +kernel
theorem dX4_clear_1 : decode cX4_clear 1 = .ok (.istore_n 1, 1) := by decide +kernel
theorem dX4_clear_2 : decode cX4_clear 2 = .ok (.iload_n 1, 1) := by decide +kernel
theorem dX4_clear_3 : decode cX4_clear 3 = .ok (.aload_n 0, 1) := by decide +kernel
theorem dX4_clear_4 : decode cX4_clear 4 = .ok (.getfield 13, 3) := by decide +kernel
theorem dX4_clear_7 : decode cX4_clear 7 = .ok (.arraylength, 1) := by decide +kernel
theorem dX4_clear_8 : decode cX4_clear 8 = .ok (.if_icmp .ge 16, 3) := by decide +kernel
theorem dX4_clear_11 : decode cX4_clear 11 = .ok (.aload_n 0, 1) := by decide +kernel
theorem dX4_clear_12 : decode cX4_clear 12 = .ok (.getfield 13, 3) := by decide +kernel
theorem dX4_clear_15 : decode cX4_clear 15 = .ok (.iload_n 1, 1) := by decide +kernel
theorem dX4_clear_16 : decode cX4_clear 16 = .ok (.iconst 0, 1) := by decide +kernel
theorem dX4_clear_17 : decode cX4_clear 17 = .ok (.iastore, 1) := by decide +kernel
theorem dX4_clear_18 : decode cX4_clear 18 = .ok (.iinc 1 1, 3) := by decide +kernel
theorem dX4_clear_21 : decode cX4_clear 21 = .ok (.goto (-19), 3) := by decide +kernel
theorem dX4_clear_24 : decode cX4_clear 24 = .ok (.return_, 1) := by decide +kernel
theorem dX4_sum_0 : decode cX4_sum 0 = .ok (.iconst 0, 1) := by decide +kernel
theorem dX4_sum_1 : decode cX4_sum 1 = .ok (.istore_n 1, 1) := by decide +kernel
theorem dX4_sum_2 : decode cX4_sum 2 = .ok (.iconst 0, 1) := by decide +kernel
theorem dX4_sum_3 : decode cX4_sum 3 = .ok (.istore_n 2, 1) := by decide +kernel
theorem dX4_sum_4 : decode cX4_sum 4 = .ok (.iload_n 2, 1) := by decide +kernel
theorem dX4_sum_5 : decode cX4_sum 5 = .ok (.aload_n 0, 1) := by decide +kernel
theorem dX4_sum_6 : decode cX4_sum 6 = .ok (.getfield 13, 3) := by decide +kernel
theorem dX4_sum_9 : decode cX4_sum 9 = .ok (.arraylength, 1) := by decide +kernel
theorem dX4_sum_10 : decode cX4_sum 10 = .ok (.if_icmp .ge 18, 3) := by decide +kernel
theorem dX4_sum_13 : decode cX4_sum 13 = .ok (.iload_n 1, 1) := by decide +kernel
theorem dX4_sum_14 : decode cX4_sum 14 = .ok (.aload_n 0, 1) := by decide +kernel
theorem dX4_sum_15 : decode cX4_sum 15 = .ok (.getfield 13, 3) := by decide +kernel
theorem dX4_sum_18 : decode cX4_sum 18 = .ok (.iload_n 2, 1) := by decide +kernel
theorem dX4_sum_19 : decode cX4_sum 19 = .ok (.iaload, 1) := by decide +kernel
theorem dX4_sum_20 : decode cX4_sum 20 = .ok (.iadd, 1) := by decide +kernel
theorem dX4_sum_21 : decode cX4_sum 21 = .ok (.istore_n 1, 1) := by decide +kernel
theorem dX4_sum_22 : decode cX4_sum 22 = .ok (.iinc 2 1, 3) := by decide +kernel
theorem dX4_sum_25 : decode cX4_sum 25 = .ok (.goto (-21), 3) := by decide +kernel
theorem dX4_sum_28 : decode cX4_sum 28 = .ok (.iload_n 1, 1) := by decide +kernel
theorem dX4_sum_29 : decode cX4_sum 29 = .ok (.ireturn, 1) := by decide +kernel
theorem dX4_copy_0 : decode cX4_copy 0 = .ok (.aload_n 1, 1) := by decide +kernel
theorem dX4_copy_1 : decode cX4_copy 1 = .ok (.getfield 13, 3) := by decide +kernel
theorem dX4_copy_4 : decode cX4_copy 4 = .ok (.iconst 0, 1) := by decide +kernel
theorem dX4_copy_5 : decode cX4_copy 5 = .ok (.aload_n 0, 1) := by decide +kernel
theorem dX4_copy_6 : decode cX4_copy 6 = .ok (.getfield 13, 3) := by decide +kernel
theorem dX4_copy_9 : decode cX4_copy 9 = .ok (.iconst 0, 1) := by decide +kernel
theorem dX4_copy_10 : decode cX4_copy 10 = .ok (.aload_n 0, 1) := by decide +kernel
theorem dX4_copy_11 : decode cX4_copy 11 = .ok (.getfield 13, 3) := by decide +kernel
theorem dX4_copy_14 : decode cX4_copy 14 = .ok (.arraylength, 1) := by decide +kernel
theorem dX4_copy_15 : decode cX4_copy 15 = .ok (.aload_n 1, 1) := by decide +kernel
theorem dX4_copy_16 : decode cX4_copy 16 = .ok (.getfield 13, 3) := by decide +kernel
theorem dX4_copy_19 : decode cX4_copy 19 = .ok (.arraylength, 1) := by decide +kernel
theorem dX4_copy_20 : decode cX4_copy 20 = .ok (.invokestatic 19, 3) := by decide +kernel
theorem dX4_copy_23 : decode cX4_copy 23 = .ok (.invokestatic 22, 3) := by decide +kernel
theorem dX4_copy_26 : decode cX4_copy 26 = .ok (.return_, 1) := by decide +kernel
theorem dX5_init_0 : decode cX5_init 0 = .ok (.aload_n 0, 1) := by decide +kernel
theorem dX5_init_1 : decode cX5_init 1 = .ok (.invokespecial 3, 3) := by decide +kernel
theorem dX5_init_4 : decode cX5_init 4 = .ok (.aload_n 0, 1) := by decide +kernel
theorem dX5_init_5 : decode cX5_init 5 = .ok (.new 9, 3) := by decide +kernel
theorem dX5_init_8 : decode cX5_init 8 = .ok (.dup, 1) := by decide +kernel
theorem dX5_init_9 : decode cX5_init 9 = .ok (.bipush 42, 2) := by decide +kernel
theorem dX5_init_11 : decode cX5_init 11 = .ok (.invokespecial 11, 3) := by decide +kernel
theorem dX5_init_14 : decode cX5_init 14 = .ok (.putfield 14, 3) := by decide +kernel
theorem dX5_init_17 : decode cX5_init 17 = .ok (.aload_n 0, 1) := by decide +kernel
theorem dX5_init_18 : decode cX5_init 18 = .ok (.new 9, 3) := by decide +kernel
theorem dX5_init_21 : decode cX5_init 21 = .ok (.dup, 1) := by decide +kernel
theorem dX5_init_22 : decode cX5_init 22 = .ok (.bipush 42, 2) := by decide +kernel
theorem dX5_init_24 : decode cX5_init 24 = .ok (.invokespecial 11, 3) := by decide +kernel
theorem dX5_init_27 : decode cX5_init 27 = .ok (.putfield 20, 3) := by decide +kernel
theorem dX5_init_30 : decode cX5_init 30 = .ok (.aload_n 0, 1) := by decide +kernel
theorem dX5_init_31 : decode cX5_init 31 = .ok (.new 9, 3) := by decide +kernel
theorem dX5_init_34 : decode cX5_init 34 = .ok (.dup, 1) := by decide +kernel
theorem dX5_init_35 : decode cX5_init 35 = .ok (.bipush 42, 2) := by decide +kernel
theorem dX5_init_37 : decode cX5_init 37 = .ok (.invokespecial 11, 3) := by decide +kernel
theorem dX5_init_40 : decode cX5_init 40 = .ok (.putfield 23, 3) := by decide +kernel
theorem dX5_init_43 : decode cX5_init 43 = .ok (.aload_n 0, 1) := by decide +kernel
theorem dX5_init_44 : decode cX5_init 44 = .ok (.new 9, 3) := by decide +kernel
theorem dX5_init_47 : decode cX5_init 47 = .ok (.dup, 1) := by decide +kernel
theorem dX5_init_48 : decode cX5_init 48 = .ok (.bipush 10, 2) := by decide +kernel
theorem dX5_init_50 : decode cX5_init 50 = .ok (.invokespecial 11, 3) := by decide +kernel
theorem dX5_init_53 : decode cX5_init 53 = .ok (.putfield 26, 3) := by decide +kernel
theorem dX5_init_56 : decode cX5_init 56 = .ok (.aload_n 0, 1) := by decide +kernel
theorem dX5_init_57 : decode cX5_init 57 = .ok (.new 9, 3) := by decide +kernel
theorem dX5_init_60 : decode cX5_init 60 = .ok (.dup, 1) := by decide +kernel
theorem dX5_init_61 : decode cX5_init 61 = .ok (.bipush 10, 2) := by decide +kernel
theorem dX5_init_63 : decode cX5_init 63 = .ok (.invokespecial 11, 3) := by decide +kernel
theorem dX5_init_66 : decode cX5_init 66 = .ok (.putfield 29, 3) := by decide +kernel
theorem dX5_init_69 : decode cX5_init 69 = .ok (.return_, 1) := by decide +kernel
theorem dX5_copy_0 : decode cX5_copy 0 = .ok (.aload_n 0, 1) := by decide +kernel
theorem dX5_copy_1 : decode cX5_copy 1 = .ok (.getfield 14, 3) := by decide +kernel
theorem dX5_copy_4 : decode cX5_copy 4 = .ok (.aload_n 1, 1) := by decide +kernel
theorem dX5_copy_5 : decode cX5_copy 5 = .ok (.getfield 14, 3) := by decide +kernel
theorem dX5_copy_8 : decode cX5_copy 8 = .ok (.invokevirtual 32, 3) := by decide +kernel
theorem dX5_copy_11 : decode cX5_copy 11 = .ok (.aload_n 0, 1) := by decide +kernel
theorem dX5_copy_12 : decode cX5_copy 12 = .ok (.getfield 20, 3) := by decide +kernel
theorem dX5_copy_15 : decode cX5_copy 15 = .ok (.aload_n 1, 1) := by decide +kernel
theorem dX5_copy_16 : decode cX5_copy 16 = .ok (.getfield 20, 3) := by decide +kernel
theorem dX5_copy_19 : decode cX5_copy 19 = .ok (.invokevirtual 32, 3) := by decide +kernel
theorem dX5_copy_22 : decode cX5_copy 22 = .ok (.aload_n 0, 1) := by decide +kernel
theorem dX5_copy_23 : decode cX5_copy 23 = .ok (.getfield 23, 3) := by decide +kernel
theorem dX5_copy_26 : decode cX5_copy 26 = .ok (.aload_n 1, 1) := by decide +kernel
theorem dX5_copy_27 : decode cX5_copy 27 = .ok (.getfield 23, 3) := by decide +kernel
theorem dX5_copy_30 : decode cX5_copy 30 = .ok (.invokevirtual 32, 3) := by decide +kernel
theorem dX5_copy_33 : decode cX5_copy 33 = .ok (.aload_n 0, 1) := by decide +kernel
theorem dX5_copy_34 : decode cX5_copy 34 = .ok (.getfield 26, 3) := by decide +kernel
theorem dX5_copy_37 : decode cX5_copy 37 = .ok (.aload_n 1, 1) := by decide +kernel
theorem dX5_copy_38 : decode cX5_copy 38 = .ok (.getfield 26, 3) := by decide +kernel
theorem dX5_copy_41 : decode cX5_copy 41 = .ok (.invokevirtual 32, 3) := by decide +kernel
theorem dX5_copy_44 : decode cX5_copy 44 = .ok (.aload_n 0, 1) := by decide +kernel
theorem dX5_copy_45 : decode cX5_copy 45 = .ok (.getfield 29, 3) := by decide +kernel
theorem dX5_copy_48 : decode cX5_copy 48 = .ok (.aload_n 1, 1) := by decide +kernel
theorem dX5_copy_49 : decode cX5_copy 49 = .ok (.getfield 29, 3) := by decide +kernel
theorem dX5_copy_52 : decode cX5_copy 52 = .ok (.invokevirtual 32, 3) := by decide +kernel
theorem dX5_copy_55 : decode cX5_copy 55 = .ok (.aload_n 0, 1) := by decide +kernel
theorem dX5_copy_56 : decode cX5_copy 56 = .ok (.aload_n 1, 1) := by decide +kernel
theorem dX5_copy_57 : decode cX5_copy 57 = .ok (.getfield 36, 3) := by decide +kernel
theorem dX5_copy_60 : decode cX5_copy 60 = .ok (.putfield 36, 3) := by decide +kernel
theorem dX5_copy_63 : decode cX5_copy 63 = .ok (.return_, 1) := by decide +kernel
theorem dX5_clear_0 : decode cX5_clear 0 = .ok (.aload_n 0, 1) := by decide +kernel
theorem dX5_clear_1 : decode cX5_clear 1 = .ok (.getfield 26, 3) := by decide +kernel
theorem dX5_clear_4 : decode cX5_clear 4 = .ok (.invokevirtual 40, 3) := by decide +kernel
theorem dX5_clear_7 : decode cX5_clear 7 = .ok (.aload_n 0, 1) := by decide +kernel
theorem dX5_clear_8 : decode cX5_clear 8 = .ok (.getfield 29, 3) := by decide +kernel
theorem dX5_clear_11 : decode cX5_clear 11 = .ok (.invokevirtual 40, 3) := by decide +kernel
theorem dX5_clear_14 : decode cX5_clear 14 = .ok (.aload_n 0, 1) := by decide +kernel
theorem dX5_clear_15 : decode cX5_clear 15 = .ok (.iconst 0, 1) := by decide +kernel
theorem dX5_clear_16 : decode cX5_clear 16 = .ok (.putfield 36, 3) := by decide +kernel
theorem dX5_clear_19 : decode cX5_clear 19 = .ok (.return_, 1) := by decide +kernel
theorem dX5_hasRange_0 : decode cX5_hasRange 0 = .ok (.iload_n 1, 1) := by decide +kernel
theorem dX5_hasRange_1 : decode cX5_hasRange 1 = .ok (.ifCond .lt 15, 3) := by decide +kernel
theorem dX5_hasRange_4 : decode cX5_hasRange 4 = .ok (.iload_n 1, 1) := by decide +kernel
theorem dX5_hasRange_5 : decode cX5_hasRange 5 = .ok (.aload_n 0, 1) := by decide +kernel
theorem dX5_hasRange_6 : decode cX5_hasRange 6 = .ok (.getfield 36, 3) := by decide +kernel
theorem dX5_hasRange_9 : decode cX5_hasRange 9 = .ok (.if_icmp .ge 7, 3) := by decide +kernel
theorem dX5_hasRange_12 : decode cX5_hasRange 12 = .ok (.iconst 1, 1) := by decide +kernel
theorem dX5_hasRange_13 : decode cX5_hasRange 13 = .ok (.goto 4, 3) := by decide +kernel
theorem dX5_hasRange_16 : decode cX5_hasRange 16 = .ok (.iconst 0, 1) := by decide +kernel
theorem dX5_hasRange_17 : decode cX5_hasRange 17 = .ok (.ireturn, 1) := by decide +kernel
theorem dX5_endOf_0 : decode cX5_endOf 0 = .ok (.aload_n 0, 1) := by decide +kernel
theorem dX5_endOf_1 : decode cX5_endOf 1 = .ok (.getfield 20, 3) := by decide +kernel
theorem dX5_endOf_4 : decode cX5_endOf 4 = .ok (.iload_n 1, 1) := by decide +kernel
theorem dX5_endOf_5 : decode cX5_endOf 5 = .ok (.invokevirtual 43, 3) := by decide +kernel
theorem dX5_endOf_8 : decode cX5_endOf 8 = .ok (.aload_n 0, 1) := by decide +kernel
theorem dX5_endOf_9 : decode cX5_endOf 9 = .ok (.getfield 23, 3) := by decide +kernel
theorem dX5_endOf_12 : decode cX5_endOf 12 = .ok (.iload_n 1, 1) := by decide +kernel
theorem dX5_endOf_13 : decode cX5_endOf 13 = .ok (.invokevirtual 43, 3) := by decide +kernel
theorem dX5_endOf_16 : decode cX5_endOf 16 = .ok (.iadd, 1) := by decide +kernel
theorem dX5_endOf_17 : decode cX5_endOf 17 = .ok (.ireturn, 1) := by decide +kernel
theorem dX5_metersOfAll_0 : decode cX5_metersOfAll 0 = .ok (.aload_n 0, 1) := by decide +kernel
theorem dX5_metersOfAll_1 : decode cX5_metersOfAll 1 = .ok (.getfield 29, 3) := by decide +kernel
theorem dX5_metersOfAll_4 : decode cX5_metersOfAll 4 = .ok (.invokevirtual 47, 3) := by decide +kernel
theorem dX5_metersOfAll_7 : decode cX5_metersOfAll 7 = .ok (.ireturn, 1) := by decide +kernel
theorem dX5_append_0 : decode cX5_append 0 = .ok (.iload_n 1, 1) := by decide +kernel
theorem dX5_append_1 : decode cX5_append 1 = .ok (.ifCond .lt 7, 3) := by decide +kernel
theorem dX5_append_4 : decode cX5_append 4 = .ok (.iload_n 3, 1) := by decide +kernel
theorem dX5_append_5 : decode cX5_append 5 = .ok (.ifCond .gt 4, 3) := by decide +kernel
theorem dX5_append_8 : decode cX5_append 8 = .ok (.return_, 1) := by decide +kernel
theorem dX5_append_9 : decode cX5_append 9 = .ok (.aload_n 0, 1) := by decide +kernel
theorem dX5_append_10 : decode cX5_append 10 = .ok (.getfield 36, 3) := by decide +kernel
theorem dX5_append_13 : decode cX5_append 13 = .ok (.iconst 1, 1) := by decide +kernel
theorem dX5_append_14 : decode cX5_append 14 = .ok (.isub, 1) := by decide +kernel
theorem dX5_append_15 : decode cX5_append 15 = .ok (.istore 4, 2) := by decide +kernel
theorem dX5_append_17 : decode cX5_append 17 = .ok (.aload_n 0, 1) := by decide +kernel
theorem dX5_append_18 : decode cX5_append 18 = .ok (.getfield 36, 3) := by decide +kernel
theorem dX5_append_21 : decode cX5_append 21 = .ok (.ifCond .le 52, 3) := by decide +kernel
theorem dX5_append_24 : decode cX5_append 24 = .ok (.aload_n 0, 1) := by decide +kernel
theorem dX5_append_25 : decode cX5_append 25 = .ok (.getfield 14, 3) := by decide +kernel
theorem dX5_append_28 : decode cX5_append 28 = .ok (.iload 4, 2) := by decide +kernel
theorem dX5_append_30 : decode cX5_append 30 = .ok (.invokevirtual 43, 3) := by decide +kernel
theorem dX5_append_33 : decode cX5_append 33 = .ok (.iload_n 1, 1) := by decide +kernel
theorem dX5_append_34 : decode cX5_append 34 = .ok (.if_icmp .ne 39, 3) := by decide +kernel
theorem dX5_append_37 : decode cX5_append 37 = .ok (.aload_n 0, 1) := by decide +kernel
theorem dX5_append_38 : decode cX5_append 38 = .ok (.getfield 20, 3) := by decide +kernel
theorem dX5_append_41 : decode cX5_append 41 = .ok (.iload 4, 2) := by decide +kernel
theorem dX5_append_43 : decode cX5_append 43 = .ok (.invokevirtual 43, 3) := by decide +kernel
theorem dX5_append_46 : decode cX5_append 46 = .ok (.aload_n 0, 1) := by decide +kernel
theorem dX5_append_47 : decode cX5_append 47 = .ok (.getfield 23, 3) := by decide +kernel
theorem dX5_append_50 : decode cX5_append 50 = .ok (.iload 4, 2) := by decide +kernel
theorem dX5_append_52 : decode cX5_append 52 = .ok (.invokevirtual 43, 3) := by decide +kernel
theorem dX5_append_55 : decode cX5_append 55 = .ok (.iadd, 1) := by decide +kernel
theorem dX5_append_56 : decode cX5_append 56 = .ok (.iload_n 2, 1) := by decide +kernel
theorem dX5_append_57 : decode cX5_append 57 = .ok (.if_icmp .ne 16, 3) := by decide +kernel
theorem dX5_append_60 : decode cX5_append 60 = .ok (.aload_n 0, 1) := by decide +kernel
theorem dX5_append_61 : decode cX5_append 61 = .ok (.getfield 23, 3) := by decide +kernel
theorem dX5_append_64 : decode cX5_append 64 = .ok (.iload 4, 2) := by decide +kernel
theorem dX5_append_66 : decode cX5_append 66 = .ok (.iload_n 3, 1) := by decide +kernel
theorem dX5_append_67 : decode cX5_append 67 = .ok (.invokevirtual 51, 3) := by decide +kernel
