theorem dX6_wouldBe_42 : decode cX6_wouldBe 42 = .ok (.getfield 22, 3) := by decide +kernel
theorem dX6_wouldBe_45 : decode cX6_wouldBe 45 = .ok (.getfield 163, 3) := by decide +kernel
theorem dX6_wouldBe_48 : decode cX6_wouldBe 48 = .ok (.ireturn, 1) := by decide +kernel
theorem dX6_quietest_0 : decode cX6_quietest 0 = .ok (.iload_n 1, 1) := by decide +kernel
theorem dX6_quietest_1 : decode cX6_quietest 1 = .ok (.invokestatic 196, 3) := by decide +kernel
theorem dX6_quietest_4 : decode cX6_quietest 4 = .ok (.ifCond .eq 12, 3) := by decide +kernel
theorem dX6_quietest_7 : decode cX6_quietest 7 = .ok (.iload_n 2, 1) := by decide +kernel
theorem dX6_quietest_8 : decode cX6_quietest 8 = .ok (.ifCond .lt 8, 3) := by decide +kernel
theorem dX6_quietest_11 : decode cX6_quietest 11 = .ok (.iload_n 2, 1) := by decide +kernel
theorem dX6_quietest_12 : decode cX6_quietest 12 = .ok (.iconst 1, 1) := by decide +kernel
theorem dX6_quietest_13 : decode cX6_quietest 13 = .ok (.if_icmp .le 6, 3) := by decide +kernel
theorem dX6_quietest_16 : decode cX6_quietest 16 = .ok (.bipush (-2), 2) := by decide +kernel
theorem dX6_quietest_18 : decode cX6_quietest 18 = .ok (.ireturn, 1) := by decide +kernel
theorem dX6_quietest_19 : decode cX6_quietest 19 = .ok (.aload_n 0, 1) := by decide +kernel
theorem dX6_quietest_20 : decode cX6_quietest 20 = .ok (.getfield 12, 3) := by decide +kernel
theorem dX6_quietest_23 : decode cX6_quietest 23 = .ok (.getfield 92, 3) := by decide +kernel
theorem dX6_quietest_26 : decode cX6_quietest 26 = .ok (.iload_n 1, 1) := by decide +kernel
theorem dX6_quietest_27 : decode cX6_quietest 27 = .ok (.invokevirtual 213, 3) := by decide +kernel
theorem dX6_quietest_30 : decode cX6_quietest 30 = .ok (.istore_n 3, 1) := by decide +kernel
theorem dX6_quietest_31 : decode cX6_quietest 31 = .ok (.iload_n 2, 1) := by decide +kernel
theorem dX6_quietest_32 : decode cX6_quietest 32 = .ok (.ifCond .ne 7, 3) := by decide +kernel
theorem dX6_quietest_35 : decode cX6_quietest 35 = .ok (.iload_n 3, 1) := by decide +kernel
theorem dX6_quietest_36 : decode cX6_quietest 36 = .ok (.goto 15, 3) := by decide +kernel
theorem dX6_quietest_39 : decode cX6_quietest 39 = .ok (.aload_n 0, 1) := by decide +kernel
theorem dX6_quietest_40 : decode cX6_quietest 40 = .ok (.getfield 12, 3) := by decide +kernel
theorem dX6_quietest_43 : decode cX6_quietest 43 = .ok (.getfield 92, 3) := by decide +kernel
theorem dX6_quietest_46 : decode cX6_quietest 46 = .ok (.iload_n 3, 1) := by decide +kernel
theorem dX6_quietest_47 : decode cX6_quietest 47 = .ok (.iload_n 1, 1) := by decide +kernel
theorem dX6_quietest_48 : decode cX6_quietest 48 = .ok (.invokevirtual 216, 3) := by decide +kernel
theorem dX6_quietest_51 : decode cX6_quietest 51 = .ok (.ireturn, 1) := by decide +kernel
theorem dX6_gaps_0 : decode cX6_gaps 0 = .ok (.aload_n 0, 1) := by decide +kernel
theorem dX6_gaps_1 : decode cX6_gaps 1 = .ok (.getfield 12, 3) := by decide +kernel
theorem dX6_gaps_4 : decode cX6_gaps 4 = .ok (.iload_n 1, 1) := by decide +kernel
theorem dX6_gaps_5 : decode cX6_gaps 5 = .ok (.invokevirtual 114, 3) := by decide +kernel
theorem dX6_gaps_8 : decode cX6_gaps 8 = .ok (.ifCond .eq 17, 3) := by decide +kernel
theorem dX6_gaps_11 : decode cX6_gaps 11 = .ok (.aload_n 0, 1) := by decide +kernel
theorem dX6_gaps_12 : decode cX6_gaps 12 = .ok (.getfield 12, 3) := by decide +kernel
theorem dX6_gaps_15 : decode cX6_gaps 15 = .ok (.getfield 92, 3) := by decide +kernel
theorem dX6_gaps_18 : decode cX6_gaps 18 = .ok (.iload_n 1, 1) := by decide +kernel
theorem dX6_gaps_19 : decode cX6_gaps 19 = .ok (.invokevirtual 219, 3) := by decide +kernel
theorem dX6_gaps_22 : decode cX6_gaps 22 = .ok (.goto 4, 3) := by decide +kernel
theorem dX6_gaps_25 : decode cX6_gaps 25 = .ok (.iconst (-1), 1) := by decide +kernel
theorem dX6_gaps_26 : decode cX6_gaps 26 = .ok (.ireturn, 1) := by decide +kernel
theorem dX6_exchange_0 : decode cX6_exchange 0 = .ok (.iload_n 1, 1) := by decide +kernel
theorem dX6_exchange_1 : decode cX6_exchange 1 = .ok (.ifCond .lt 8, 3) := by decide +kernel
theorem dX6_exchange_4 : decode cX6_exchange 4 = .ok (.iload_n 1, 1) := by decide +kernel
theorem dX6_exchange_5 : decode cX6_exchange 5 = .ok (.iconst 2, 1) := by decide +kernel
theorem dX6_exchange_6 : decode cX6_exchange 6 = .ok (.if_icmp .le 8, 3) := by decide +kernel
theorem dX6_exchange_9 : decode cX6_exchange 9 = .ok (.bipush (-2), 2) := by decide +kernel
theorem dX6_exchange_11 : decode cX6_exchange 11 = .ok (.goto 14, 3) := by decide +kernel
theorem dX6_exchange_14 : decode cX6_exchange 14 = .ok (.aload_n 0, 1) := by decide +kernel
theorem dX6_exchange_15 : decode cX6_exchange 15 = .ok (.getfield 12, 3) := by decide +kernel
theorem dX6_exchange_18 : decode cX6_exchange 18 = .ok (.getfield 92, 3) := by decide +kernel
theorem dX6_exchange_21 : decode cX6_exchange 21 = .ok (.iload_n 1, 1) := by decide +kernel
theorem dX6_exchange_22 : decode cX6_exchange 22 = .ok (.invokevirtual 222, 3) := by decide +kernel
theorem dX6_exchange_25 : decode cX6_exchange 25 = .ok (.ireturn, 1) := by decide +kernel
theorem dX6_losesIn_0 : decode cX6_losesIn 0 = .ok (.aload_n 0, 1) := by decide +kernel
theorem dX6_losesIn_1 : decode cX6_losesIn 1 = .ok (.getfield 12, 3) := by decide +kernel
theorem dX6_losesIn_4 : decode cX6_losesIn 4 = .ok (.iload_n 1, 1) := by decide +kernel
theorem dX6_losesIn_5 : decode cX6_losesIn 5 = .ok (.invokevirtual 114, 3) := by decide +kernel
theorem dX6_losesIn_8 : decode cX6_losesIn 8 = .ok (.ifCond .eq 14, 3) := by decide +kernel
theorem dX6_losesIn_11 : decode cX6_losesIn 11 = .ok (.aload_n 0, 1) := by decide +kernel
theorem dX6_losesIn_12 : decode cX6_losesIn 12 = .ok (.getfield 12, 3) := by decide +kernel
theorem dX6_losesIn_15 : decode cX6_losesIn 15 = .ok (.iload_n 1, 1) := by decide +kernel
theorem dX6_losesIn_16 : decode cX6_losesIn 16 = .ok (.invokevirtual 225, 3) := by decide +kernel
theorem dX6_losesIn_19 : decode cX6_losesIn 19 = .ok (.goto 4, 3) := by decide +kernel
theorem dX6_losesIn_22 : decode cX6_losesIn 22 = .ok (.iconst (-1), 1) := by decide +kernel
theorem dX6_losesIn_23 : decode cX6_losesIn 23 = .ok (.ireturn, 1) := by decide +kernel
theorem dX6_put_0 : decode cX6_put 0 = .ok (.lload_n 1, 1) := by decide +kernel
theorem dX6_put_1 : decode cX6_put 1 = .ok (.invokestatic 228, 3) := by decide +kernel
theorem dX6_put_4 : decode cX6_put 4 = .ok (.istore_n 3, 1) := by decide +kernel
theorem dX6_put_5 : decode cX6_put 5 = .ok (.iload_n 3, 1) := by decide +kernel
theorem dX6_put_6 : decode cX6_put 6 = .ok (.ifCond .ne 6, 3) := by decide +kernel
theorem dX6_put_9 : decode cX6_put 9 = .ok (.bipush (-2), 2) := by decide +kernel
theorem dX6_put_11 : decode cX6_put 11 = .ok (.ireturn, 1) := by decide +kernel
theorem dX6_put_12 : decode cX6_put 12 = .ok (.aload_n 0, 1) := by decide +kernel
theorem dX6_put_13 : decode cX6_put 13 = .ok (.getfield 40, 3) := by decide +kernel
theorem dX6_put_16 : decode cX6_put 16 = .ok (.lload_n 1, 1) := by decide +kernel
theorem dX6_put_17 : decode cX6_put 17 = .ok (.iload_n 3, 1) := by decide +kernel
theorem dX6_put_18 : decode cX6_put 18 = .ok (.invokevirtual 232, 3) := by decide +kernel
theorem dX6_put_21 : decode cX6_put 21 = .ok (.ifCond .eq 13, 3) := by decide +kernel
theorem dX6_put_24 : decode cX6_put 24 = .ok (.aload_n 0, 1) := by decide +kernel
theorem dX6_put_25 : decode cX6_put 25 = .ok (.getfield 40, 3) := by decide +kernel
theorem dX6_put_28 : decode cX6_put 28 = .ok (.getfield 185, 3) := by decide +kernel
theorem dX6_put_31 : decode cX6_put 31 = .ok (.goto 5, 3) := by decide +kernel
theorem dX6_put_34 : decode cX6_put 34 = .ok (.bipush (-4), 2) := by decide +kernel
theorem dX6_put_36 : decode cX6_put 36 = .ok (.ireturn, 1) := by decide +kernel
theorem dX6_wipe_0 : decode cX6_wipe 0 = .ok (.aload_n 0, 1) := by decide +kernel
theorem dX6_wipe_1 : decode cX6_wipe 1 = .ok (.getfield 40, 3) := by decide +kernel
theorem dX6_wipe_4 : decode cX6_wipe 4 = .ok (.getfield 185, 3) := by decide +kernel
theorem dX6_wipe_7 : decode cX6_wipe 7 = .ok (.istore_n 1, 1) := by decide +kernel
theorem dX6_wipe_8 : decode cX6_wipe 8 = .ok (.aload_n 0, 1) := by decide +kernel
theorem dX6_wipe_9 : decode cX6_wipe 9 = .ok (.getfield 40, 3) := by decide +kernel
theorem dX6_wipe_12 : decode cX6_wipe 12 = .ok (.iconst 0, 1) := by decide +kernel
theorem dX6_wipe_13 : decode cX6_wipe 13 = .ok (.putfield 185, 3) := by decide +kernel
theorem dX6_wipe_16 : decode cX6_wipe 16 = .ok (.iload_n 1, 1) := by decide +kernel
theorem dX6_wipe_17 : decode cX6_wipe 17 = .ok (.ireturn, 1) := by decide +kernel
theorem dX6_fault_0 : decode cX6_fault 0 = .ok (.aload_n 0, 1) := by decide +kernel
theorem dX6_fault_1 : decode cX6_fault 1 = .ok (.getfield 40, 3) := by decide +kernel
theorem dX6_fault_4 : decode cX6_fault 4 = .ok (.invokevirtual 236, 3) := by decide +kernel
theorem dX6_fault_7 : decode cX6_fault 7 = .ok (.ireturn, 1) := by decide +kernel
theorem dX6_carryOut_0 : decode cX6_carryOut 0 = .ok (.aload_n 0, 1) := by decide +kernel
theorem dX6_carryOut_1 : decode cX6_carryOut 1 = .ok (.getfield 40, 3) := by decide +kernel
theorem dX6_carryOut_4 : decode cX6_carryOut 4 = .ok (.invokevirtual 236, 3) := by decide +kernel
theorem dX6_carryOut_7 : decode cX6_carryOut 7 = .ok (.bipush (-6), 2) := by decide +kernel
theorem dX6_carryOut_9 : decode cX6_carryOut 9 = .ok (.if_icmp .eq 6, 3) := by decide +kernel
theorem dX6_carryOut_12 : decode cX6_carryOut 12 = .ok (.bipush (-3), 2) := by decide +kernel
theorem dX6_carryOut_14 : decode cX6_carryOut 14 = .ok (.ireturn, 1) := by decide +kernel
theorem dX6_carryOut_15 : decode cX6_carryOut 15 = .ok (.aload_n 0, 1) := by decide +kernel
theorem dX6_carryOut_16 : decode cX6_carryOut 16 = .ok (.getfield 29, 3) := by decide +kernel
theorem dX6_carryOut_19 : decode cX6_carryOut 19 = .ok (.aload_n 0, 1) := by decide +kernel
theorem dX6_carryOut_20 : decode cX6_carryOut 20 = .ok (.getfield 12, 3) := by decide +kernel
theorem dX6_carryOut_23 : decode cX6_carryOut 23 = .ok (.invokevirtual 44, 3) := by decide +kernel
theorem dX6_carryOut_26 : decode cX6_carryOut 26 = .ok (.iconst 0, 1) := by decide +kernel
theorem dX6_carryOut_27 : decode cX6_carryOut 27 = .ok (.istore_n 1, 1) := by decide +kernel
theorem dX6_carryOut_28 : decode cX6_carryOut 28 = .ok (.aload_n 0, 1) := by decide +kernel
theorem dX6_carryOut_29 : decode cX6_carryOut 29 = .ok (.getfield 40, 3) := by decide +kernel
theorem dX6_carryOut_32 : decode cX6_carryOut 32 = .ok (.iconst 0, 1) := by decide +kernel
theorem dX6_carryOut_33 : decode cX6_carryOut 33 = .ok (.putfield 239, 3) := by decide +kernel
theorem dX6_carryOut_36 : decode cX6_carryOut 36 = .ok (.iload_n 1, 1) := by decide +kernel
theorem dX6_carryOut_37 : decode cX6_carryOut 37 = .ok (.bipush 80, 2) := by decide +kernel
theorem dX6_carryOut_39 : decode cX6_carryOut 39 = .ok (.if_icmp .ge 39, 3) := by decide +kernel
theorem dX6_carryOut_42 : decode cX6_carryOut 42 = .ok (.aload_n 0, 1) := by decide +kernel
theorem dX6_carryOut_43 : decode cX6_carryOut 43 = .ok (.getfield 40, 3) := by decide +kernel
theorem dX6_carryOut_46 : decode cX6_carryOut 46 = .ok (.invokevirtual 242, 3) := by decide +kernel
theorem dX6_carryOut_49 : decode cX6_carryOut 49 = .ok (.ifCond .eq 29, 3) := by decide +kernel
theorem dX6_carryOut_52 : decode cX6_carryOut 52 = .ok (.aload_n 0, 1) := by decide +kernel
theorem dX6_carryOut_53 : decode cX6_carryOut 53 = .ok (.invokevirtual 246, 3) := by decide +kernel
theorem dX6_carryOut_56 : decode cX6_carryOut 56 = .ok (.ifCond .lt 22, 3) := by decide +kernel
theorem dX6_carryOut_59 : decode cX6_carryOut 59 = .ok (.iinc 1 1, 3) := by decide +kernel
theorem dX6_carryOut_62 : decode cX6_carryOut 62 = .ok (.aload_n 0, 1) := by decide +kernel
theorem dX6_carryOut_63 : decode cX6_carryOut 63 = .ok (.getfield 40, 3) := by decide +kernel
theorem dX6_carryOut_66 : decode cX6_carryOut 66 = .ok (.dup, 1) := by decide +kernel
theorem dX6_carryOut_67 : decode cX6_carryOut 67 = .ok (.getfield 239, 3) := by decide +kernel
theorem dX6_carryOut_70 : decode cX6_carryOut 70 = .ok (.iconst 1, 1) := by decide +kernel
theorem dX6_carryOut_71 : decode cX6_carryOut 71 = .ok (.iadd, 1) := by decide +kernel
theorem dX6_carryOut_72 : decode cX6_carryOut 72 = .ok (.putfield 239, 3) := by decide +kernel
theorem dX6_carryOut_75 : decode cX6_carryOut 75 = .ok (.goto (-39), 3) := by decide +kernel
theorem dX6_carryOut_78 : decode cX6_carryOut 78 = .ok (.aload_n 0, 1) := by decide +kernel
theorem dX6_carryOut_79 : decode cX6_carryOut 79 = .ok (.getfield 40, 3) := by decide +kernel
theorem dX6_carryOut_82 : decode cX6_carryOut 82 = .ok (.iconst 0, 1) := by decide +kernel
theorem dX6_carryOut_83 : decode cX6_carryOut 83 = .ok (.putfield 185, 3) := by decide +kernel
theorem dX6_carryOut_86 : decode cX6_carryOut 86 = .ok (.aload_n 0, 1) := by decide +kernel
theorem dX6_carryOut_87 : decode cX6_carryOut 87 = .ok (.getfield 29, 3) := by decide +kernel
theorem dX6_carryOut_90 : decode cX6_carryOut 90 = .ok (.iload_n 1, 1) := by decide +kernel
theorem dX6_carryOut_91 : decode cX6_carryOut 91 = .ok (.invokevirtual 52, 3) := by decide +kernel
theorem dX6_carryOut_94 : decode cX6_carryOut 94 = .ok (.ireturn, 1) := by decide +kernel
theorem dX6_undo_0 : decode cX6_undo 0 = .ok (.aload_n 0, 1) := by decide +kernel
theorem dX6_undo_1 : decode cX6_undo 1 = .ok (.getfield 29, 3) := by decide +kernel
theorem dX6_undo_4 : decode cX6_undo 4 = .ok (.aload_n 0, 1) := by decide +kernel
theorem dX6_undo_5 : decode cX6_undo 5 = .ok (.getfield 12, 3) := by decide +kernel
theorem dX6_undo_8 : decode cX6_undo 8 = .ok (.invokevirtual 249, 3) := by decide +kernel
theorem dX6_undo_11 : decode cX6_undo 11 = .ok (.ifCond .eq 13, 3) := by decide +kernel
theorem dX6_undo_14 : decode cX6_undo 14 = .ok (.aload_n 0, 1) := by decide +kernel
theorem dX6_undo_15 : decode cX6_undo 15 = .ok (.getfield 29, 3) := by decide +kernel
theorem dX6_undo_18 : decode cX6_undo 18 = .ok (.getfield 186, 3) := by decide +kernel
theorem dX6_undo_21 : decode cX6_undo 21 = .ok (.goto 5, 3) := by decide +kernel
theorem dX6_undo_24 : decode cX6_undo 24 = .ok (.bipush (-5), 2) := by decide +kernel
theorem dX6_undo_26 : decode cX6_undo 26 = .ok (.ireturn, 1) := by decide +kernel
theorem dX6_save_0 : decode cX6_save 0 = .ok (.iload_n 1, 1) := by decide +kernel
theorem dX6_save_1 : decode cX6_save 1 = .ok (.invokestatic 253, 3) := by decide +kernel
theorem dX6_save_4 : decode cX6_save 4 = .ok (.ifCond .ne 6, 3) := by decide +kernel
theorem dX6_save_7 : decode cX6_save 7 = .ok (.bipush (-2), 2) := by decide +kernel
theorem dX6_save_9 : decode cX6_save 9 = .ok (.ireturn, 1) := by decide +kernel
theorem dX6_save_10 : decode cX6_save 10 = .ok (.aload_n 0, 1) := by decide +kernel
theorem dX6_save_11 : decode cX6_save 11 = .ok (.getfield 33, 3) := by decide +kernel
theorem dX6_save_14 : decode cX6_save 14 = .ok (.iload_n 1, 1) := by decide +kernel
theorem dX6_save_15 : decode cX6_save 15 = .ok (.aaload, 1) := by decide +kernel
theorem dX6_save_16 : decode cX6_save 16 = .ok (.astore_n 2, 1) := by decide +kernel
theorem dX6_save_17 : decode cX6_save 17 = .ok (.aload_n 2, 1) := by decide +kernel
theorem dX6_save_18 : decode cX6_save 18 = .ok (.ifnonnull 18, 3) := by decide +kernel
theorem dX6_save_21 : decode cX6_save 21 = .ok (.new 9, 3) := by decide +kernel
theorem dX6_save_24 : decode cX6_save 24 = .ok (.dup, 1) := by decide +kernel
theorem dX6_save_25 : decode cX6_save 25 = .ok (.invokespecial 11, 3) := by decide +kernel
theorem dX6_save_28 : decode cX6_save 28 = .ok (.astore_n 2, 1) := by decide +kernel
theorem dX6_save_29 : decode cX6_save 29 = .ok (.aload_n 0, 1) := by decide +kernel
theorem dX6_save_30 : decode cX6_save 30 = .ok (.getfield 33, 3) := by decide +kernel
theorem dX6_save_33 : decode cX6_save 33 = .ok (.iload_n 1, 1) := by decide +kernel
theorem dX6_save_34 : decode cX6_save 34 = .ok (.aload_n 2, 1) := by decide +kernel
theorem dX6_save_35 : decode cX6_save 35 = .ok (.aastore, 1) := by decide +kernel
theorem dX6_save_36 : decode cX6_save 36 = .ok (.aload_n 2, 1) := by decide +kernel
theorem dX6_save_37 : decode cX6_save 37 = .ok (.aload_n 0, 1) := by decide +kernel
theorem dX6_save_38 : decode cX6_save 38 = .ok (.getfield 12, 3) := by decide +kernel
theorem dX6_save_41 : decode cX6_save 41 = .ok (.invokevirtual 256, 3) := by decide +kernel
theorem dX6_save_44 : decode cX6_save 44 = .ok (.aload_n 0, 1) := by decide +kernel
theorem dX6_save_45 : decode cX6_save 45 = .ok (.getfield 12, 3) := by decide +kernel
theorem dX6_save_48 : decode cX6_save 48 = .ok (.getfield 156, 3) := by decide +kernel
theorem dX6_save_51 : decode cX6_save 51 = .ok (.ireturn, 1) := by decide +kernel
theorem dX6_restore_0 : decode cX6_restore 0 = .ok (.aload_n 0, 1) := by decide +kernel
theorem dX6_restore_1 : decode cX6_restore 1 = .ok (.getfield 29, 3) := by decide +kernel
theorem dX6_restore_4 : decode cX6_restore 4 = .ok (.aload_n 0, 1) := by decide +kernel
theorem dX6_restore_5 : decode cX6_restore 5 = .ok (.getfield 12, 3) := by decide +kernel
theorem dX6_restore_8 : decode cX6_restore 8 = .ok (.invokevirtual 44, 3) := by decide +kernel
theorem dX6_restore_11 : decode cX6_restore 11 = .ok (.aload_n 0, 1) := by decide +kernel
theorem dX6_restore_12 : decode cX6_restore 12 = .ok (.getfield 29, 3) := by decide +kernel
theorem dX6_restore_15 : decode cX6_restore 15 = .ok (.aload_n 0, 1) := by decide +kernel
theorem dX6_restore_16 : decode cX6_restore 16 = .ok (.iload_n 1, 1) := by decide +kernel
theorem dX6_restore_17 : decode cX6_restore 17 = .ok (.invokevirtual 259, 3) := by decide +kernel
theorem dX6_restore_20 : decode cX6_restore 20 = .ok (.invokevirtual 52, 3) := by decide +kernel
theorem dX6_restore_23 : decode cX6_restore 23 = .ok (.ireturn, 1) := by decide +kernel
theorem dX6_isSetting_0 : decode cX6_isSetting 0 = .ok (.iload_n 0, 1) := by decide +kernel
theorem dX6_isSetting_1 : decode cX6_isSetting 1 = .ok (.ifCond .lt 12, 3) := by decide +kernel
theorem dX6_isSetting_4 : decode cX6_isSetting 4 = .ok (.iload_n 0, 1) := by decide +kernel
theorem dX6_isSetting_5 : decode cX6_isSetting 5 = .ok (.iconst 5, 1) := by decide +kernel
theorem dX6_isSetting_6 : decode cX6_isSetting 6 = .ok (.if_icmp .ge 7, 3) := by decide +kernel
theorem dX6_isSetting_9 : decode cX6_isSetting 9 = .ok (.iconst 1, 1) := by decide +kernel
theorem dX6_isSetting_10 : decode cX6_isSetting 10 = .ok (.goto 4, 3) := by decide +kernel
theorem dX6_isSetting_13 : decode cX6_isSetting 13 = .ok (.iconst 0, 1) := by decide +kernel
theorem dX6_isSetting_14 : decode cX6_isSetting 14 = .ok (.ireturn, 1) := by decide +kernel
theorem dX6_isSlot_0 : decode cX6_isSlot 0 = .ok (.iload_n 0, 1) := by decide +kernel
theorem dX6_isSlot_1 : decode cX6_isSlot 1 = .ok (.ifCond .lt 12, 3) := by decide +kernel
theorem dX6_isSlot_4 : decode cX6_isSlot 4 = .ok (.iload_n 0, 1) := by decide +kernel
theorem dX6_isSlot_5 : decode cX6_isSlot 5 = .ok (.iconst 2, 1) := by decide +kernel
theorem dX6_isSlot_6 : decode cX6_isSlot 6 = .ok (.if_icmp .ge 7, 3) := by decide +kernel
theorem dX6_isSlot_9 : decode cX6_isSlot 9 = .ok (.iconst 1, 1) := by decide +kernel
theorem dX6_isSlot_10 : decode cX6_isSlot 10 = .ok (.goto 4, 3) := by decide +kernel
theorem dX6_isSlot_13 : decode cX6_isSlot 13 = .ok (.iconst 0, 1) := by decide +kernel
theorem dX6_isSlot_14 : decode cX6_isSlot 14 = .ok (.ireturn, 1) := by decide +kernel
theorem dX6_isAmount_0 : decode cX6_isAmount 0 = .ok (.iload_n 0, 1) := by decide +kernel
theorem dX6_isAmount_1 : decode cX6_isAmount 1 = .ok (.ifCond .lt 14, 3) := by decide +kernel
theorem dX6_isAmount_4 : decode cX6_isAmount 4 = .ok (.iload_n 0, 1) := by decide +kernel
theorem dX6_isAmount_5 : decode cX6_isAmount 5 = .ok (.ldc_w 262, 3) := by decide +kernel
theorem dX6_isAmount_8 : decode cX6_isAmount 8 = .ok (.if_icmp .gt 7, 3) := by decide +kernel
theorem dX6_isAmount_11 : decode cX6_isAmount 11 = .ok (.iconst 1, 1) := by decide +kernel
theorem dX6_isAmount_12 : decode cX6_isAmount 12 = .ok (.goto 4, 3) := by decide +kernel
theorem dX6_isAmount_15 : decode cX6_isAmount 15 = .ok (.iconst 0, 1) := by decide +kernel
theorem dX6_isAmount_16 : decode cX6_isAmount 16 = .ok (.ireturn, 1) := by decide +kernel
theorem dX6_isLength_0 : decode cX6_isLength 0 = .ok (.iload_n 0, 1) := by decide +kernel
theorem dX6_isLength_1 : decode cX6_isLength 1 = .ok (.iconst 1, 1) := by decide +kernel
theorem dX6_isLength_2 : decode cX6_isLength 2 = .ok (.if_icmp .lt 14, 3) := by decide +kernel
theorem dX6_isLength_5 : decode cX6_isLength 5 = .ok (.iload_n 0, 1) := by decide +kernel
theorem dX6_isLength_6 : decode cX6_isLength 6 = .ok (.sipush 10000, 3) := by decide +kernel
theorem dX6_isLength_9 : decode cX6_isLength 9 = .ok (.if_icmp .gt 7, 3) := by decide +kernel
theorem dX6_isLength_12 : decode cX6_isLength 12 = .ok (.iconst 1, 1) := by decide +kernel
theorem dX6_isLength_13 : decode cX6_isLength 13 = .ok (.goto 4, 3) := by decide +kernel
theorem dX6_isLength_16 : decode cX6_isLength 16 = .ok (.iconst 0, 1) := by decide +kernel
theorem dX6_isLength_17 : decode cX6_isLength 17 = .ok (.ireturn, 1) := by decide +kernel
theorem dX6_isPiece_0 : decode cX6_isPiece 0 = .ok (.iload_n 0, 1) := by decide +kernel
theorem dX6_isPiece_1 : decode cX6_isPiece 1 = .ok (.ifCond .lt 30, 3) := by decide +kernel
theorem dX6_isPiece_4 : decode cX6_isPiece 4 = .ok (.iload_n 0, 1) := by decide +kernel
theorem dX6_isPiece_5 : decode cX6_isPiece 5 = .ok (.sipush 10000, 3) := by decide +kernel
theorem dX6_isPiece_8 : decode cX6_isPiece 8 = .ok (.if_icmp .ge 23, 3) := by decide +kernel
theorem dX6_isPiece_11 : decode cX6_isPiece 11 = .ok (.iload_n 1, 1) := by decide +kernel
theorem dX6_isPiece_12 : decode cX6_isPiece 12 = .ok (.invokestatic 196, 3) := by decide +kernel
theorem dX6_isPiece_15 : decode cX6_isPiece 15 = .ok (.ifCond .eq 16, 3) := by decide +kernel
theorem dX6_isPiece_18 : decode cX6_isPiece 18 = .ok (.iload_n 0, 1) := by decide +kernel
theorem dX6_isPiece_19 : decode cX6_isPiece 19 = .ok (.iload_n 1, 1) := by decide +kernel
theorem dX6_isPiece_20 : decode cX6_isPiece 20 = .ok (.iadd, 1) := by decide +kernel
theorem dX6_isPiece_21 : decode cX6_isPiece 21 = .ok (.sipush 10000, 3) := by decide +kernel
theorem dX6_isPiece_24 : decode cX6_isPiece 24 = .ok (.if_icmp .gt 7, 3) := by decide +kernel
theorem dX6_isPiece_27 : decode cX6_isPiece 27 = .ok (.iconst 1, 1) := by decide +kernel
theorem dX6_isPiece_28 : decode cX6_isPiece 28 = .ok (.goto 4, 3) := by decide +kernel
theorem dX6_isPiece_31 : decode cX6_isPiece 31 = .ok (.iconst 0, 1) := by decide +kernel
theorem dX6_isPiece_32 : decode cX6_isPiece 32 = .ok (.ireturn, 1) := by decide +kernel
theorem dX6_changeSetting_0 : decode cX6_changeSetting 0 = .ok (.iload_n 1, 1) := by decide +kernel
theorem dX6_changeSetting_1 : decode cX6_changeSetting 1 = .ok (.invokestatic 187, 3) := by decide +kernel
theorem dX6_changeSetting_4 : decode cX6_changeSetting 4 = .ok (.ifCond .eq 21, 3) := by decide +kernel
theorem dX6_changeSetting_7 : decode cX6_changeSetting 7 = .ok (.iload_n 2, 1) := by decide +kernel
theorem dX6_changeSetting_8 : decode cX6_changeSetting 8 = .ok (.getstatic 263, 3) := by decide +kernel
theorem dX6_changeSetting_11 : decode cX6_changeSetting 11 = .ok (.iload_n 1, 1) := by decide +kernel
theorem dX6_changeSetting_12 : decode cX6_changeSetting 12 = .ok (.iaload, 1) := by decide +kernel
theorem dX6_changeSetting_13 : decode cX6_changeSetting 13 = .ok (.if_icmp .lt 12, 3) := by decide +kernel
theorem dX6_changeSetting_16 : decode cX6_changeSetting 16 = .ok (.iload_n 2, 1) := by decide +kernel
theorem dX6_changeSetting_17 : decode cX6_changeSetting 17 = .ok (.getstatic 267, 3) := by decide +kernel
theorem dX6_changeSetting_20 : decode cX6_changeSetting 20 = .ok (.iload_n 1, 1) := by decide +kernel
theorem dX6_changeSetting_21 : decode cX6_changeSetting 21 = .ok (.iaload, 1) := by decide +kernel
theorem dX6_changeSetting_22 : decode cX6_changeSetting 22 = .ok (.if_icmp .le 6, 3) := by decide +kernel
theorem dX6_changeSetting_25 : decode cX6_changeSetting 25 = .ok (.bipush (-2), 2) := by decide +kernel
theorem dX6_changeSetting_27 : decode cX6_changeSetting 27 = .ok (.ireturn, 1) := by decide +kernel
theorem dX6_changeSetting_28 : decode cX6_changeSetting 28 = .ok (.aload_n 0, 1) := by decide +kernel
theorem dX6_changeSetting_29 : decode cX6_changeSetting 29 = .ok (.getfield 12, 3) := by decide +kernel
theorem dX6_changeSetting_32 : decode cX6_changeSetting 32 = .ok (.getfield 190, 3) := by decide +kernel
theorem dX6_changeSetting_35 : decode cX6_changeSetting 35 = .ok (.iload_n 1, 1) := by decide +kernel
theorem dX6_changeSetting_36 : decode cX6_changeSetting 36 = .ok (.invokevirtual 103, 3) := by decide +kernel
theorem dX6_changeSetting_39 : decode cX6_changeSetting 39 = .ok (.istore_n 3, 1) := by decide +kernel
theorem dX6_changeSetting_40 : decode cX6_changeSetting 40 = .ok (.aload_n 0, 1) := by decide +kernel
theorem dX6_changeSetting_41 : decode cX6_changeSetting 41 = .ok (.getfield 12, 3) := by decide +kernel
theorem dX6_changeSetting_44 : decode cX6_changeSetting 44 = .ok (.getfield 190, 3) := by decide +kernel
theorem dX6_changeSetting_47 : decode cX6_changeSetting 47 = .ok (.iload_n 1, 1) := by decide +kernel
theorem dX6_changeSetting_48 : decode cX6_changeSetting 48 = .ok (.iload_n 2, 1) := by decide +kernel
theorem dX6_changeSetting_49 : decode cX6_changeSetting 49 = .ok (.invokevirtual 270, 3) := by decide +kernel
theorem dX6_changeSetting_52 : decode cX6_changeSetting 52 = .ok (.iload_n 3, 1) := by decide +kernel
theorem dX6_changeSetting_53 : decode cX6_changeSetting 53 = .ok (.ireturn, 1) := by decide +kernel
theorem dX6_addOwner_0 : decode cX6_addOwner 0 = .ok (.iload_n 1, 1) := by decide +kernel
theorem dX6_addOwner_1 : decode cX6_addOwner 1 = .ok (.invokestatic 274, 3) := by decide +kernel
theorem dX6_addOwner_4 : decode cX6_addOwner 4 = .ok (.ifCond .ne 6, 3) := by decide +kernel
theorem dX6_addOwner_7 : decode cX6_addOwner 7 = .ok (.bipush (-2), 2) := by decide +kernel
theorem dX6_addOwner_9 : decode cX6_addOwner 9 = .ok (.ireturn, 1) := by decide +kernel
theorem dX6_addOwner_10 : decode cX6_addOwner 10 = .ok (.aload_n 0, 1) := by decide +kernel
theorem dX6_addOwner_11 : decode cX6_addOwner 11 = .ok (.getfield 12, 3) := by decide +kernel
theorem dX6_addOwner_14 : decode cX6_addOwner 14 = .ok (.getfield 160, 3) := by decide +kernel
theorem dX6_addOwner_17 : decode cX6_addOwner 17 = .ok (.bipush 10, 2) := by decide +kernel
theorem dX6_addOwner_19 : decode cX6_addOwner 19 = .ok (.if_icmp .lt 6, 3) := by decide +kernel
theorem dX6_addOwner_22 : decode cX6_addOwner 22 = .ok (.bipush (-4), 2) := by decide +kernel
theorem dX6_addOwner_24 : decode cX6_addOwner 24 = .ok (.ireturn, 1) := by decide +kernel
theorem dX6_addOwner_25 : decode cX6_addOwner 25 = .ok (.aload_n 0, 1) := by decide +kernel
theorem dX6_addOwner_26 : decode cX6_addOwner 26 = .ok (.getfield 12, 3) := by decide +kernel
theorem dX6_addOwner_29 : decode cX6_addOwner 29 = .ok (.getfield 160, 3) := by decide +kernel
theorem dX6_addOwner_32 : decode cX6_addOwner 32 = .ok (.istore_n 2, 1) := by decide +kernel
theorem dX6_addOwner_33 : decode cX6_addOwner 33 = .ok (.aload_n 0, 1) := by decide +kernel
theorem dX6_addOwner_34 : decode cX6_addOwner 34 = .ok (.getfield 12, 3) := by decide +kernel
theorem dX6_addOwner_37 : decode cX6_addOwner 37 = .ok (.iload_n 2, 1) := by decide +kernel
theorem dX6_addOwner_38 : decode cX6_addOwner 38 = .ok (.iconst 1, 1) := by decide +kernel
theorem dX6_addOwner_39 : decode cX6_addOwner 39 = .ok (.iadd, 1) := by decide +kernel
theorem dX6_addOwner_40 : decode cX6_addOwner 40 = .ok (.putfield 160, 3) := by decide +kernel
theorem dX6_addOwner_43 : decode cX6_addOwner 43 = .ok (.aload_n 0, 1) := by decide +kernel
theorem dX6_addOwner_44 : decode cX6_addOwner 44 = .ok (.getfield 12, 3) := by decide +kernel
theorem dX6_addOwner_47 : decode cX6_addOwner 47 = .ok (.iload_n 2, 1) := by decide +kernel
theorem dX6_addOwner_48 : decode cX6_addOwner 48 = .ok (.iload_n 1, 1) := by decide +kernel
theorem dX6_addOwner_49 : decode cX6_addOwner 49 = .ok (.i2l, 1) := by decide +kernel
theorem dX6_addOwner_50 : decode cX6_addOwner 50 = .ok (.invokevirtual 277, 3) := by decide +kernel
theorem dX6_addOwner_53 : decode cX6_addOwner 53 = .ok (.iload_n 2, 1) := by decide +kernel
theorem dX6_addOwner_54 : decode cX6_addOwner 54 = .ok (.ireturn, 1) := by decide +kernel
theorem dX6_payIn_0 : decode cX6_payIn 0 = .ok (.aload_n 0, 1) := by decide +kernel
theorem dX6_payIn_1 : decode cX6_payIn 1 = .ok (.getfield 12, 3) := by decide +kernel
theorem dX6_payIn_4 : decode cX6_payIn 4 = .ok (.iload_n 1, 1) := by decide +kernel
theorem dX6_payIn_5 : decode cX6_payIn 5 = .ok (.invokevirtual 114, 3) := by decide +kernel
theorem dX6_payIn_8 : decode cX6_payIn 8 = .ok (.ifCond .ne 5, 3) := by decide +kernel
theorem dX6_payIn_11 : decode cX6_payIn 11 = .ok (.iconst (-1), 1) := by decide +kernel
theorem dX6_payIn_12 : decode cX6_payIn 12 = .ok (.ireturn, 1) := by decide +kernel
theorem dX6_payIn_13 : decode cX6_payIn 13 = .ok (.iload_n 2, 1) := by decide +kernel
theorem dX6_payIn_14 : decode cX6_payIn 14 = .ok (.invokestatic 274, 3) := by decide +kernel
theorem dX6_payIn_17 : decode cX6_payIn 17 = .ok (.ifCond .ne 6, 3) := by decide +kernel
theorem dX6_payIn_20 : decode cX6_payIn 20 = .ok (.bipush (-2), 2) := by decide +kernel
theorem dX6_payIn_22 : decode cX6_payIn 22 = .ok (.ireturn, 1) := by decide +kernel
theorem dX6_payIn_23 : decode cX6_payIn 23 = .ok (.aload_n 0, 1) := by decide +kernel
theorem dX6_payIn_24 : decode cX6_payIn 24 = .ok (.getfield 12, 3) := by decide +kernel
theorem dX6_payIn_27 : decode cX6_payIn 27 = .ok (.iload_n 1, 1) := by decide +kernel
theorem dX6_payIn_28 : decode cX6_payIn 28 = .ok (.iload_n 2, 1) := by decide +kernel
theorem dX6_payIn_29 : decode cX6_payIn 29 = .ok (.i2l, 1) := by decide +kernel
theorem dX6_payIn_30 : decode cX6_payIn 30 = .ok (.invokevirtual 277, 3) := by decide +kernel
theorem dX6_payIn_33 : decode cX6_payIn 33 = .ok (.aload_n 0, 1) := by decide +kernel
theorem dX6_payIn_34 : decode cX6_payIn 34 = .ok (.getfield 12, 3) := by decide +kernel
theorem dX6_payIn_37 : decode cX6_payIn 37 = .ok (.iload_n 1, 1) := by decide +kernel
theorem dX6_payIn_38 : decode cX6_payIn 38 = .ok (.invokevirtual 135, 3) := by decide +kernel
theorem dX6_payIn_41 : decode cX6_payIn 41 = .ok (.lconst 0, 1) := by decide +kernel
theorem dX6_payIn_42 : decode cX6_payIn 42 = .ok (.lcmp, 1) := by decide +kernel
theorem dX6_payIn_43 : decode cX6_payIn 43 = .ok (.ifCond .lt 7, 3) := by decide +kernel
theorem dX6_payIn_46 : decode cX6_payIn 46 = .ok (.iconst 1, 1) := by decide +kernel
theorem dX6_payIn_47 : decode cX6_payIn 47 = .ok (.goto 4, 3) := by decide +kernel
theorem dX6_payIn_50 : decode cX6_payIn 50 = .ok (.iconst 0, 1) := by decide +kernel
theorem dX6_payIn_51 : decode cX6_payIn 51 = .ok (.ireturn, 1) := by decide +kernel
theorem dX6_givePiece_0 : decode cX6_givePiece 0 = .ok (.aload_n 0, 1) := by decide +kernel
theorem dX6_givePiece_1 : decode cX6_givePiece 1 = .ok (.getfield 12, 3) := by decide +kernel
theorem dX6_givePiece_4 : decode cX6_givePiece 4 = .ok (.iload_n 1, 1) := by decide +kernel
theorem dX6_givePiece_5 : decode cX6_givePiece 5 = .ok (.invokevirtual 114, 3) := by decide +kernel
theorem dX6_givePiece_8 : decode cX6_givePiece 8 = .ok (.ifCond .ne 5, 3) := by decide +kernel
theorem dX6_givePiece_11 : decode cX6_givePiece 11 = .ok (.iconst (-1), 1) := by decide +kernel
theorem dX6_givePiece_12 : decode cX6_givePiece 12 = .ok (.ireturn, 1) := by decide +kernel
theorem dX6_givePiece_13 : decode cX6_givePiece 13 = .ok (.iload_n 2, 1) := by decide +kernel
theorem dX6_givePiece_14 : decode cX6_givePiece 14 = .ok (.iload_n 3, 1) := by decide +kernel
theorem dX6_givePiece_15 : decode cX6_givePiece 15 = .ok (.invokestatic 205, 3) := by decide +kernel
theorem dX6_givePiece_18 : decode cX6_givePiece 18 = .ok (.ifCond .ne 6, 3) := by decide +kernel
theorem dX6_givePiece_21 : decode cX6_givePiece 21 = .ok (.bipush (-2), 2) := by decide +kernel
theorem dX6_givePiece_23 : decode cX6_givePiece 23 = .ok (.ireturn, 1) := by decide +kernel
theorem dX6_givePiece_24 : decode cX6_givePiece 24 = .ok (.aload_n 0, 1) := by decide +kernel
theorem dX6_givePiece_25 : decode cX6_givePiece 25 = .ok (.getfield 22, 3) := by decide +kernel
theorem dX6_givePiece_28 : decode cX6_givePiece 28 = .ok (.aload_n 0, 1) := by decide +kernel
theorem dX6_givePiece_29 : decode cX6_givePiece 29 = .ok (.getfield 12, 3) := by decide +kernel
theorem dX6_givePiece_32 : decode cX6_givePiece 32 = .ok (.getfield 92, 3) := by decide +kernel
theorem dX6_givePiece_35 : decode cX6_givePiece 35 = .ok (.iload_n 1, 1) := by decide +kernel
theorem dX6_givePiece_36 : decode cX6_givePiece 36 = .ok (.iload_n 2, 1) := by decide +kernel
theorem dX6_givePiece_37 : decode cX6_givePiece 37 = .ok (.iload_n 3, 1) := by decide +kernel
theorem dX6_givePiece_38 : decode cX6_givePiece 38 = .ok (.invokevirtual 209, 3) := by decide +kernel
theorem dX6_givePiece_41 : decode cX6_givePiece 41 = .ok (.aload_n 0, 1) := by decide +kernel
theorem dX6_givePiece_42 : decode cX6_givePiece 42 = .ok (.getfield 22, 3) := by decide +kernel
theorem dX6_givePiece_45 : decode cX6_givePiece 45 = .ok (.getfield 163, 3) := by decide +kernel
theorem dX6_givePiece_48 : decode cX6_givePiece 48 = .ok (.bipush 40, 2) := by decide +kernel
theorem dX6_givePiece_50 : decode cX6_givePiece 50 = .ok (.if_icmp .le 6, 3) := by decide +kernel
theorem dX6_givePiece_53 : decode cX6_givePiece 53 = .ok (.bipush (-4), 2) := by decide +kernel
theorem dX6_givePiece_55 : decode cX6_givePiece 55 = .ok (.ireturn, 1) := by decide +kernel
theorem dX6_givePiece_56 : decode cX6_givePiece 56 = .ok (.aload_n 0, 1) := by decide +kernel
theorem dX6_givePiece_57 : decode cX6_givePiece 57 = .ok (.getfield 12, 3) := by decide +kernel
theorem dX6_givePiece_60 : decode cX6_givePiece 60 = .ok (.iload_n 1, 1) := by decide +kernel
theorem dX6_givePiece_61 : decode cX6_givePiece 61 = .ok (.iload_n 3, 1) := by decide +kernel
theorem dX6_givePiece_62 : decode cX6_givePiece 62 = .ok (.aload_n 0, 1) := by decide +kernel
theorem dX6_givePiece_63 : decode cX6_givePiece 63 = .ok (.getfield 12, 3) := by decide +kernel
theorem dX6_givePiece_66 : decode cX6_givePiece 66 = .ok (.getfield 92, 3) := by decide +kernel
theorem dX6_givePiece_69 : decode cX6_givePiece 69 = .ok (.iload_n 1, 1) := by decide +kernel
theorem dX6_givePiece_70 : decode cX6_givePiece 70 = .ok (.iload_n 2, 1) := by decide +kernel
theorem dX6_givePiece_71 : decode cX6_givePiece 71 = .ok (.iload_n 3, 1) := by decide +kernel
theorem dX6_givePiece_72 : decode cX6_givePiece 72 = .ok (.invokevirtual 281, 3) := by decide +kernel
theorem dX6_givePiece_75 : decode cX6_givePiece 75 = .ok (.isub, 1) := by decide +kernel
theorem dX6_givePiece_76 : decode cX6_givePiece 76 = .ok (.invokevirtual 284, 3) := by decide +kernel
theorem dX6_givePiece_79 : decode cX6_givePiece 79 = .ok (.ifCond .ne 6, 3) := by decide +kernel
theorem dX6_givePiece_82 : decode cX6_givePiece 82 = .ok (.bipush (-5), 2) := by decide +kernel
theorem dX6_givePiece_84 : decode cX6_givePiece 84 = .ok (.ireturn, 1) := by decide +kernel
theorem dX6_givePiece_85 : decode cX6_givePiece 85 = .ok (.aload_n 0, 1) := by decide +kernel
theorem dX6_givePiece_86 : decode cX6_givePiece 86 = .ok (.getfield 12, 3) := by decide +kernel
theorem dX6_givePiece_89 : decode cX6_givePiece 89 = .ok (.getfield 92, 3) := by decide +kernel
theorem dX6_givePiece_92 : decode cX6_givePiece 92 = .ok (.aload_n 0, 1) := by decide +kernel
theorem dX6_givePiece_93 : decode cX6_givePiece 93 = .ok (.getfield 22, 3) := by decide +kernel
theorem dX6_givePiece_96 : decode cX6_givePiece 96 = .ok (.invokevirtual 287, 3) := by decide +kernel
theorem dX6_givePiece_99 : decode cX6_givePiece 99 = .ok (.aload_n 0, 1) := by decide +kernel
theorem dX6_givePiece_100 : decode cX6_givePiece 100 = .ok (.getfield 22, 3) := by decide +kernel
theorem dX6_givePiece_103 : decode cX6_givePiece 103 = .ok (.getfield 163, 3) := by decide +kernel
theorem dX6_givePiece_106 : decode cX6_givePiece 106 = .ok (.ireturn, 1) := by decide +kernel
theorem dX6_freePiece_0 : decode cX6_freePiece 0 = .ok (.iload_n 1, 1) := by decide +kernel
theorem dX6_freePiece_1 : decode cX6_freePiece 1 = .ok (.iload_n 2, 1) := by decide +kernel
theorem dX6_freePiece_2 : decode cX6_freePiece 2 = .ok (.invokestatic 205, 3) := by decide +kernel
theorem dX6_freePiece_5 : decode cX6_freePiece 5 = .ok (.ifCond .ne 6, 3) := by decide +kernel
theorem dX6_freePiece_8 : decode cX6_freePiece 8 = .ok (.bipush (-2), 2) := by decide +kernel
theorem dX6_freePiece_10 : decode cX6_freePiece 10 = .ok (.ireturn, 1) := by decide +kernel
theorem dX6_freePiece_11 : decode cX6_freePiece 11 = .ok (.aload_n 0, 1) := by decide +kernel
theorem dX6_freePiece_12 : decode cX6_freePiece 12 = .ok (.getfield 22, 3) := by decide +kernel
theorem dX6_freePiece_15 : decode cX6_freePiece 15 = .ok (.aload_n 0, 1) := by decide +kernel
theorem dX6_freePiece_16 : decode cX6_freePiece 16 = .ok (.getfield 12, 3) := by decide +kernel
theorem dX6_freePiece_19 : decode cX6_freePiece 19 = .ok (.getfield 92, 3) := by decide +kernel
theorem dX6_freePiece_22 : decode cX6_freePiece 22 = .ok (.bipush (-6), 2) := by decide +kernel
theorem dX6_freePiece_24 : decode cX6_freePiece 24 = .ok (.iload_n 1, 1) := by decide +kernel
theorem dX6_freePiece_25 : decode cX6_freePiece 25 = .ok (.iload_n 2, 1) := by decide +kernel
theorem dX6_freePiece_26 : decode cX6_freePiece 26 = .ok (.invokevirtual 209, 3) := by decide +kernel
theorem dX6_freePiece_29 : decode cX6_freePiece 29 = .ok (.aload_n 0, 1) := by decide +kernel
theorem dX6_freePiece_30 : decode cX6_freePiece 30 = .ok (.getfield 22, 3) := by decide +kernel
theorem dX6_freePiece_33 : decode cX6_freePiece 33 = .ok (.getfield 163, 3) := by decide +kernel
theorem dX6_freePiece_36 : decode cX6_freePiece 36 = .ok (.bipush 40, 2) := by decide +kernel
theorem dX6_freePiece_38 : decode cX6_freePiece 38 = .ok (.if_icmp .le 6, 3) := by decide +kernel
theorem dX6_freePiece_41 : decode cX6_freePiece 41 = .ok (.bipush (-4), 2) := by decide +kernel
theorem dX6_freePiece_43 : decode cX6_freePiece 43 = .ok (.ireturn, 1) := by decide +kernel
theorem dX6_freePiece_44 : decode cX6_freePiece 44 = .ok (.aload_n 0, 1) := by decide +kernel
theorem dX6_freePiece_45 : decode cX6_freePiece 45 = .ok (.getfield 12, 3) := by decide +kernel
theorem dX6_freePiece_48 : decode cX6_freePiece 48 = .ok (.getfield 92, 3) := by decide +kernel
theorem dX6_freePiece_51 : decode cX6_freePiece 51 = .ok (.aload_n 0, 1) := by decide +kernel
theorem dX6_freePiece_52 : decode cX6_freePiece 52 = .ok (.getfield 22, 3) := by decide +kernel
theorem dX6_freePiece_55 : decode cX6_freePiece 55 = .ok (.invokevirtual 287, 3) := by decide +kernel
theorem dX6_freePiece_58 : decode cX6_freePiece 58 = .ok (.aload_n 0, 1) := by decide +kernel
theorem dX6_freePiece_59 : decode cX6_freePiece 59 = .ok (.getfield 22, 3) := by decide +kernel
theorem dX6_freePiece_62 : decode cX6_freePiece 62 = .ok (.getfield 163, 3) := by decide +kernel
theorem dX6_freePiece_65 : decode cX6_freePiece 65 = .ok (.ireturn, 1) := by decide +kernel
theorem dX6_grabPiece_0 : decode cX6_grabPiece 0 = .ok (.aload_n 0, 1) := by decide +kernel
theorem dX6_grabPiece_1 : decode cX6_grabPiece 1 = .ok (.getfield 12, 3) := by decide +kernel
theorem dX6_grabPiece_4 : decode cX6_grabPiece 4 = .ok (.iload_n 1, 1) := by decide +kernel
theorem dX6_grabPiece_5 : decode cX6_grabPiece 5 = .ok (.invokevirtual 114, 3) := by decide +kernel
theorem dX6_grabPiece_8 : decode cX6_grabPiece 8 = .ok (.ifCond .ne 5, 3) := by decide +kernel
theorem dX6_grabPiece_11 : decode cX6_grabPiece 11 = .ok (.iconst (-1), 1) := by decide +kernel
theorem dX6_grabPiece_12 : decode cX6_grabPiece 12 = .ok (.ireturn, 1) := by decide +kernel
theorem dX6_grabPiece_13 : decode cX6_grabPiece 13 = .ok (.iload_n 2, 1) := by decide +kernel
theorem dX6_grabPiece_14 : decode cX6_grabPiece 14 = .ok (.invokestatic 196, 3) := by decide +kernel
theorem dX6_grabPiece_17 : decode cX6_grabPiece 17 = .ok (.ifCond .ne 6, 3) := by decide +kernel
theorem dX6_grabPiece_20 : decode cX6_grabPiece 20 = .ok (.bipush (-2), 2) := by decide +kernel
theorem dX6_grabPiece_22 : decode cX6_grabPiece 22 = .ok (.ireturn, 1) := by decide +kernel
theorem dX6_grabPiece_23 : decode cX6_grabPiece 23 = .ok (.aload_n 0, 1) := by decide +kernel
theorem dX6_grabPiece_24 : decode cX6_grabPiece 24 = .ok (.getfield 12, 3) := by decide +kernel
theorem dX6_grabPiece_27 : decode cX6_grabPiece 27 = .ok (.getfield 92, 3) := by decide +kernel
theorem dX6_grabPiece_30 : decode cX6_grabPiece 30 = .ok (.iload_n 2, 1) := by decide +kernel
theorem dX6_grabPiece_31 : decode cX6_grabPiece 31 = .ok (.iconst 0, 1) := by decide +kernel
theorem dX6_grabPiece_32 : decode cX6_grabPiece 32 = .ok (.invokevirtual 199, 3) := by decide +kernel
theorem dX6_grabPiece_35 : decode cX6_grabPiece 35 = .ok (.istore_n 3, 1) := by decide +kernel
theorem dX6_grabPiece_36 : decode cX6_grabPiece 36 = .ok (.iload_n 3, 1) := by decide +kernel
theorem dX6_grabPiece_37 : decode cX6_grabPiece 37 = .ok (.bipush (-6), 2) := by decide +kernel
theorem dX6_grabPiece_39 : decode cX6_grabPiece 39 = .ok (.if_icmp .ne 6, 3) := by decide +kernel
theorem dX6_grabPiece_42 : decode cX6_grabPiece 42 = .ok (.bipush (-5), 2) := by decide +kernel
theorem dX6_grabPiece_44 : decode cX6_grabPiece 44 = .ok (.ireturn, 1) := by decide +kernel
theorem dX6_grabPiece_45 : decode cX6_grabPiece 45 = .ok (.aload_n 0, 1) := by decide +kernel
theorem dX6_grabPiece_46 : decode cX6_grabPiece 46 = .ok (.getfield 12, 3) := by decide +kernel
theorem dX6_grabPiece_49 : decode cX6_grabPiece 49 = .ok (.getfield 92, 3) := by decide +kernel
theorem dX6_grabPiece_52 : decode cX6_grabPiece 52 = .ok (.iload_n 3, 1) := by decide +kernel
theorem dX6_grabPiece_53 : decode cX6_grabPiece 53 = .ok (.invokevirtual 202, 3) := by decide +kernel
theorem dX6_grabPiece_56 : decode cX6_grabPiece 56 = .ok (.istore 4, 2) := by decide +kernel
theorem dX6_grabPiece_58 : decode cX6_grabPiece 58 = .ok (.aload_n 0, 1) := by decide +kernel
theorem dX6_grabPiece_59 : decode cX6_grabPiece 59 = .ok (.iload_n 1, 1) := by decide +kernel
theorem dX6_grabPiece_60 : decode cX6_grabPiece 60 = .ok (.iload 4, 2) := by decide +kernel
theorem dX6_grabPiece_62 : decode cX6_grabPiece 62 = .ok (.iload_n 2, 1) := by decide +kernel
theorem dX6_grabPiece_63 : decode cX6_grabPiece 63 = .ok (.invokevirtual 62, 3) := by decide +kernel
theorem dX6_grabPiece_66 : decode cX6_grabPiece 66 = .ok (.istore 5, 2) := by decide +kernel
theorem dX6_grabPiece_68 : decode cX6_grabPiece 68 = .ok (.iload 5, 2) := by decide +kernel
theorem dX6_grabPiece_70 : decode cX6_grabPiece 70 = .ok (.ifCond .ge 8, 3) := by decide +kernel
theorem dX6_grabPiece_73 : decode cX6_grabPiece 73 = .ok (.iload 5, 2) := by decide +kernel
theorem dX6_grabPiece_75 : decode cX6_grabPiece 75 = .ok (.goto 5, 3) := by decide +kernel
theorem dX6_grabPiece_78 : decode cX6_grabPiece 78 = .ok (.iload 4, 2) := by decide +kernel
theorem dX6_grabPiece_80 : decode cX6_grabPiece 80 = .ok (.ireturn, 1) := by decide +kernel
theorem dX6_handOver_0 : decode cX6_handOver 0 = .ok (.aload_n 0, 1) := by decide +kernel
theorem dX6_handOver_1 : decode cX6_handOver 1 = .ok (.getfield 12, 3) := by decide +kernel
theorem dX6_handOver_4 : decode cX6_handOver 4 = .ok (.iload_n 1, 1) := by decide +kernel
theorem dX6_handOver_5 : decode cX6_handOver 5 = .ok (.invokevirtual 114, 3) := by decide +kernel
theorem dX6_handOver_8 : decode cX6_handOver 8 = .ok (.ifCond .eq 19, 3) := by decide +kernel
theorem dX6_handOver_11 : decode cX6_handOver 11 = .ok (.aload_n 0, 1) := by decide +kernel
theorem dX6_handOver_12 : decode cX6_handOver 12 = .ok (.getfield 12, 3) := by decide +kernel
theorem dX6_handOver_15 : decode cX6_handOver 15 = .ok (.iload_n 2, 1) := by decide +kernel
theorem dX6_handOver_16 : decode cX6_handOver 16 = .ok (.invokevirtual 114, 3) := by decide +kernel
theorem dX6_handOver_19 : decode cX6_handOver 19 = .ok (.ifCond .eq 8, 3) := by decide +kernel
theorem dX6_handOver_22 : decode cX6_handOver 22 = .ok (.iload_n 1, 1) := by decide +kernel
theorem dX6_handOver_23 : decode cX6_handOver 23 = .ok (.iload_n 2, 1) := by decide +kernel
theorem dX6_handOver_24 : decode cX6_handOver 24 = .ok (.if_icmp .ne 5, 3) := by decide +kernel
theorem dX6_handOver_27 : decode cX6_handOver 27 = .ok (.iconst (-1), 1) := by decide +kernel
theorem dX6_handOver_28 : decode cX6_handOver 28 = .ok (.ireturn, 1) := by decide +kernel
theorem dX6_handOver_29 : decode cX6_handOver 29 = .ok (.aload_n 0, 1) := by decide +kernel
theorem dX6_handOver_30 : decode cX6_handOver 30 = .ok (.getfield 12, 3) := by decide +kernel
theorem dX6_handOver_33 : decode cX6_handOver 33 = .ok (.getfield 92, 3) := by decide +kernel
theorem dX6_handOver_36 : decode cX6_handOver 36 = .ok (.getfield 120, 3) := by decide +kernel
theorem dX6_handOver_39 : decode cX6_handOver 39 = .ok (.iload_n 1, 1) := by decide +kernel
theorem dX6_handOver_40 : decode cX6_handOver 40 = .ok (.invokevirtual 103, 3) := by decide +kernel
theorem dX6_handOver_43 : decode cX6_handOver 43 = .ok (.istore_n 3, 1) := by decide +kernel
theorem dX6_handOver_44 : decode cX6_handOver 44 = .ok (.aload_n 0, 1) := by decide +kernel
theorem dX6_handOver_45 : decode cX6_handOver 45 = .ok (.getfield 12, 3) := by decide +kernel
theorem dX6_handOver_48 : decode cX6_handOver 48 = .ok (.iload_n 2, 1) := by decide +kernel
theorem dX6_handOver_49 : decode cX6_handOver 49 = .ok (.iload_n 3, 1) := by decide +kernel
theorem dX6_handOver_50 : decode cX6_handOver 50 = .ok (.invokevirtual 284, 3) := by decide +kernel
theorem dX6_handOver_53 : decode cX6_handOver 53 = .ok (.ifCond .ne 6, 3) := by decide +kernel
theorem dX6_handOver_56 : decode cX6_handOver 56 = .ok (.bipush (-5), 2) := by decide +kernel
theorem dX6_handOver_58 : decode cX6_handOver 58 = .ok (.ireturn, 1) := by decide +kernel
theorem dX6_handOver_59 : decode cX6_handOver 59 = .ok (.aload_n 0, 1) := by decide +kernel
theorem dX6_handOver_60 : decode cX6_handOver 60 = .ok (.getfield 22, 3) := by decide +kernel
theorem dX6_handOver_63 : decode cX6_handOver 63 = .ok (.aload_n 0, 1) := by decide +kernel
theorem dX6_handOver_64 : decode cX6_handOver 64 = .ok (.getfield 12, 3) := by decide +kernel
theorem dX6_handOver_67 : decode cX6_handOver 67 = .ok (.getfield 92, 3) := by decide +kernel
theorem dX6_handOver_70 : decode cX6_handOver 70 = .ok (.iload_n 1, 1) := by decide +kernel
theorem dX6_handOver_71 : decode cX6_handOver 71 = .ok (.iload_n 2, 1) := by decide +kernel
theorem dX6_handOver_72 : decode cX6_handOver 72 = .ok (.invokevirtual 290, 3) := by decide +kernel
theorem dX6_handOver_75 : decode cX6_handOver 75 = .ok (.aload_n 0, 1) := by decide +kernel
theorem dX6_handOver_76 : decode cX6_handOver 76 = .ok (.getfield 12, 3) := by decide +kernel
theorem dX6_handOver_79 : decode cX6_handOver 79 = .ok (.getfield 92, 3) := by decide +kernel
theorem dX6_handOver_82 : decode cX6_handOver 82 = .ok (.aload_n 0, 1) := by decide +kernel
theorem dX6_handOver_83 : decode cX6_handOver 83 = .ok (.getfield 22, 3) := by decide +kernel
theorem dX6_handOver_86 : decode cX6_handOver 86 = .ok (.invokevirtual 287, 3) := by decide +kernel
theorem dX6_handOver_89 : decode cX6_handOver 89 = .ok (.iload_n 3, 1) := by decide +kernel
theorem dX6_handOver_90 : decode cX6_handOver 90 = .ok (.ireturn, 1) := by decide +kernel
theorem dX6_addTransfer_0 : decode cX6_addTransfer 0 = .ok (.aload_n 0, 1) := by decide +kernel
theorem dX6_addTransfer_1 : decode cX6_addTransfer 1 = .ok (.getfield 12, 3) := by decide +kernel
theorem dX6_addTransfer_4 : decode cX6_addTransfer 4 = .ok (.iload_n 1, 1) := by decide +kernel
theorem dX6_addTransfer_5 : decode cX6_addTransfer 5 = .ok (.invokevirtual 114, 3) := by decide +kernel
theorem dX6_addTransfer_8 : decode cX6_addTransfer 8 = .ok (.ifCond .eq 19, 3) := by decide +kernel
theorem dX6_addTransfer_11 : decode cX6_addTransfer 11 = .ok (.aload_n 0, 1) := by decide +kernel
theorem dX6_addTransfer_12 : decode cX6_addTransfer 12 = .ok (.getfield 12, 3) := by decide +kernel
theorem dX6_addTransfer_15 : decode cX6_addTransfer 15 = .ok (.iload_n 2, 1) := by decide +kernel
theorem dX6_addTransfer_16 : decode cX6_addTransfer 16 = .ok (.invokevirtual 114, 3) := by decide +kernel
theorem dX6_addTransfer_19 : decode cX6_addTransfer 19 = .ok (.ifCond .eq 8, 3) := by decide +kernel
theorem dX6_addTransfer_22 : decode cX6_addTransfer 22 = .ok (.iload_n 1, 1) := by decide +kernel
theorem dX6_addTransfer_23 : decode cX6_addTransfer 23 = .ok (.iload_n 2, 1) := by decide +kernel
theorem dX6_addTransfer_24 : decode cX6_addTransfer 24 = .ok (.if_icmp .ne 5, 3) := by decide +kernel
theorem dX6_addTransfer_27 : decode cX6_addTransfer 27 = .ok (.iconst (-1), 1) := by decide +kernel
theorem dX6_addTransfer_28 : decode cX6_addTransfer 28 = .ok (.ireturn, 1) := by decide +kernel
theorem dX6_addTransfer_29 : decode cX6_addTransfer 29 = .ok (.iload_n 3, 1) := by decide +kernel
theorem dX6_addTransfer_30 : decode cX6_addTransfer 30 = .ok (.iload 4, 2) := by decide +kernel
theorem dX6_addTransfer_32 : decode cX6_addTransfer 32 = .ok (.invokestatic 205, 3) := by decide +kernel
theorem dX6_addTransfer_35 : decode cX6_addTransfer 35 = .ok (.ifCond .eq 11, 3) := by decide +kernel
theorem dX6_addTransfer_38 : decode cX6_addTransfer 38 = .ok (.iload 5, 2) := by decide +kernel
theorem dX6_addTransfer_40 : decode cX6_addTransfer 40 = .ok (.invokestatic 274, 3) := by decide +kernel
theorem dX6_addTransfer_43 : decode cX6_addTransfer 43 = .ok (.ifCond .ne 6, 3) := by decide +kernel
theorem dX6_addTransfer_46 : decode cX6_addTransfer 46 = .ok (.bipush (-2), 2) := by decide +kernel
theorem dX6_addTransfer_48 : decode cX6_addTransfer 48 = .ok (.ireturn, 1) := by decide +kernel
theorem dX6_addTransfer_49 : decode cX6_addTransfer 49 = .ok (.aload_n 0, 1) := by decide +kernel
theorem dX6_addTransfer_50 : decode cX6_addTransfer 50 = .ok (.getfield 12, 3) := by decide +kernel
theorem dX6_addTransfer_53 : decode cX6_addTransfer 53 = .ok (.getfield 144, 3) := by decide +kernel
theorem dX6_addTransfer_56 : decode cX6_addTransfer 56 = .ok (.getfield 175, 3) := by decide +kernel
theorem dX6_addTransfer_59 : decode cX6_addTransfer 59 = .ok (.bipush 8, 2) := by decide +kernel
theorem dX6_addTransfer_61 : decode cX6_addTransfer 61 = .ok (.if_icmp .lt 6, 3) := by decide +kernel
theorem dX6_addTransfer_64 : decode cX6_addTransfer 64 = .ok (.bipush (-4), 2) := by decide +kernel
theorem dX6_addTransfer_66 : decode cX6_addTransfer 66 = .ok (.ireturn, 1) := by decide +kernel
theorem dX6_addTransfer_67 : decode cX6_addTransfer 67 = .ok (.aload_n 0, 1) := by decide +kernel
theorem dX6_addTransfer_68 : decode cX6_addTransfer 68 = .ok (.getfield 12, 3) := by decide +kernel
theorem dX6_addTransfer_71 : decode cX6_addTransfer 71 = .ok (.getfield 144, 3) := by decide +kernel
theorem dX6_addTransfer_74 : decode cX6_addTransfer 74 = .ok (.iload_n 1, 1) := by decide +kernel
theorem dX6_addTransfer_75 : decode cX6_addTransfer 75 = .ok (.iload_n 2, 1) := by decide +kernel
theorem dX6_addTransfer_76 : decode cX6_addTransfer 76 = .ok (.iload_n 3, 1) := by decide +kernel
theorem dX6_addTransfer_77 : decode cX6_addTransfer 77 = .ok (.iload 4, 2) := by decide +kernel
theorem dX6_addTransfer_79 : decode cX6_addTransfer 79 = .ok (.iload 5, 2) := by decide +kernel
theorem dX6_addTransfer_81 : decode cX6_addTransfer 81 = .ok (.invokevirtual 294, 3) := by decide +kernel
theorem dX6_addTransfer_84 : decode cX6_addTransfer 84 = .ok (.aload_n 0, 1) := by decide +kernel
theorem dX6_addTransfer_85 : decode cX6_addTransfer 85 = .ok (.getfield 12, 3) := by decide +kernel
theorem dX6_addTransfer_88 : decode cX6_addTransfer 88 = .ok (.getfield 144, 3) := by decide +kernel
theorem dX6_addTransfer_91 : decode cX6_addTransfer 91 = .ok (.getfield 175, 3) := by decide +kernel
theorem dX6_addTransfer_94 : decode cX6_addTransfer 94 = .ok (.ireturn, 1) := by decide +kernel
theorem dX6_dropTransfer_0 : decode cX6_dropTransfer 0 = .ok (.aload_n 0, 1) := by decide +kernel
theorem dX6_dropTransfer_1 : decode cX6_dropTransfer 1 = .ok (.getfield 12, 3) := by decide +kernel
theorem dX6_dropTransfer_4 : decode cX6_dropTransfer 4 = .ok (.getfield 144, 3) := by decide +kernel
theorem dX6_dropTransfer_7 : decode cX6_dropTransfer 7 = .ok (.getfield 175, 3) := by decide +kernel
theorem dX6_dropTransfer_10 : decode cX6_dropTransfer 10 = .ok (.ifCond .ne 6, 3) := by decide +kernel
theorem dX6_dropTransfer_13 : decode cX6_dropTransfer 13 = .ok (.bipush (-5), 2) := by decide +kernel
theorem dX6_dropTransfer_15 : decode cX6_dropTransfer 15 = .ok (.ireturn, 1) := by decide +kernel
theorem dX6_dropTransfer_16 : decode cX6_dropTransfer 16 = .ok (.aload_n 0, 1) := by decide +kernel
theorem dX6_dropTransfer_17 : decode cX6_dropTransfer 17 = .ok (.getfield 12, 3) := by decide +kernel
theorem dX6_dropTransfer_20 : decode cX6_dropTransfer 20 = .ok (.getfield 144, 3) := by decide +kernel
theorem dX6_dropTransfer_23 : decode cX6_dropTransfer 23 = .ok (.dup, 1) := by decide +kernel
theorem dX6_dropTransfer_24 : decode cX6_dropTransfer 24 = .ok (.getfield 175, 3) := by decide +kernel
theorem dX6_dropTransfer_27 : decode cX6_dropTransfer 27 = .ok (.iconst 1, 1) := by decide +kernel
theorem dX6_dropTransfer_28 : decode cX6_dropTransfer 28 = .ok (.isub, 1) := by decide +kernel
theorem dX6_dropTransfer_29 : decode cX6_dropTransfer 29 = .ok (.putfield 175, 3) := by decide +kernel
theorem dX6_dropTransfer_32 : decode cX6_dropTransfer 32 = .ok (.aload_n 0, 1) := by decide +kernel
theorem dX6_dropTransfer_33 : decode cX6_dropTransfer 33 = .ok (.getfield 12, 3) := by decide +kernel
theorem dX6_dropTransfer_36 : decode cX6_dropTransfer 36 = .ok (.getfield 144, 3) := by decide +kernel
theorem dX6_dropTransfer_39 : decode cX6_dropTransfer 39 = .ok (.getfield 175, 3) := by decide +kernel
theorem dX6_dropTransfer_42 : decode cX6_dropTransfer 42 = .ok (.ireturn, 1) := by decide +kernel
theorem dX6_closeDeal_0 : decode cX6_closeDeal 0 = .ok (.aload_n 0, 1) := by decide +kernel
theorem dX6_closeDeal_1 : decode cX6_closeDeal 1 = .ok (.getfield 12, 3) := by decide +kernel
theorem dX6_closeDeal_4 : decode cX6_closeDeal 4 = .ok (.getfield 144, 3) := by decide +kernel
theorem dX6_closeDeal_7 : decode cX6_closeDeal 7 = .ok (.getfield 175, 3) := by decide +kernel
theorem dX6_closeDeal_10 : decode cX6_closeDeal 10 = .ok (.istore_n 1, 1) := by decide +kernel
theorem dX6_closeDeal_11 : decode cX6_closeDeal 11 = .ok (.iload_n 1, 1) := by decide +kernel
theorem dX6_closeDeal_12 : decode cX6_closeDeal 12 = .ok (.ifCond .eq 12, 3) := by decide +kernel
theorem dX6_closeDeal_15 : decode cX6_closeDeal 15 = .ok (.aload_n 0, 1) := by decide +kernel
theorem dX6_closeDeal_16 : decode cX6_closeDeal 16 = .ok (.invokevirtual 86, 3) := by decide +kernel
theorem dX6_closeDeal_19 : decode cX6_closeDeal 19 = .ok (.bipush (-6), 2) := by decide +kernel
theorem dX6_closeDeal_21 : decode cX6_closeDeal 21 = .ok (.if_icmp .eq 6, 3) := by decide +kernel
theorem dX6_closeDeal_24 : decode cX6_closeDeal 24 = .ok (.bipush (-5), 2) := by decide +kernel
theorem dX6_closeDeal_26 : decode cX6_closeDeal 26 = .ok (.ireturn, 1) := by decide +kernel
theorem dX6_closeDeal_27 : decode cX6_closeDeal 27 = .ok (.aload_n 0, 1) := by decide +kernel
theorem dX6_closeDeal_28 : decode cX6_closeDeal 28 = .ok (.getfield 12, 3) := by decide +kernel
theorem dX6_closeDeal_31 : decode cX6_closeDeal 31 = .ok (.aload_n 0, 1) := by decide +kernel
theorem dX6_closeDeal_32 : decode cX6_closeDeal 32 = .ok (.getfield 16, 3) := by decide +kernel
theorem dX6_closeDeal_35 : decode cX6_closeDeal 35 = .ok (.invokevirtual 256, 3) := by decide +kernel
theorem dX6_closeDeal_38 : decode cX6_closeDeal 38 = .ok (.aload_n 0, 1) := by decide +kernel
theorem dX6_closeDeal_39 : decode cX6_closeDeal 39 = .ok (.getfield 12, 3) := by decide +kernel
theorem dX6_closeDeal_42 : decode cX6_closeDeal 42 = .ok (.getfield 144, 3) := by decide +kernel
theorem dX6_closeDeal_45 : decode cX6_closeDeal 45 = .ok (.iconst 0, 1) := by decide +kernel
theorem dX6_closeDeal_46 : decode cX6_closeDeal 46 = .ok (.putfield 175, 3) := by decide +kernel
theorem dX6_closeDeal_49 : decode cX6_closeDeal 49 = .ok (.aload_n 0, 1) := by decide +kernel
theorem dX6_closeDeal_50 : decode cX6_closeDeal 50 = .ok (.getfield 12, 3) := by decide +kernel
theorem dX6_closeDeal_53 : decode cX6_closeDeal 53 = .ok (.dup, 1) := by decide +kernel
theorem dX6_closeDeal_54 : decode cX6_closeDeal 54 = .ok (.getfield 176, 3) := by decide +kernel
theorem dX6_closeDeal_57 : decode cX6_closeDeal 57 = .ok (.iconst 1, 1) := by decide +kernel
theorem dX6_closeDeal_58 : decode cX6_closeDeal 58 = .ok (.iadd, 1) := by decide +kernel
theorem dX6_closeDeal_59 : decode cX6_closeDeal 59 = .ok (.putfield 176, 3) := by decide +kernel
theorem dX6_closeDeal_62 : decode cX6_closeDeal 62 = .ok (.iload_n 1, 1) := by decide +kernel
theorem dX6_closeDeal_63 : decode cX6_closeDeal 63 = .ok (.ireturn, 1) := by decide +kernel
theorem dX6_rehearse_0 : decode cX6_rehearse 0 = .ok (.aload_n 0, 1) := by decide +kernel
theorem dX6_rehearse_1 : decode cX6_rehearse 1 = .ok (.getfield 16, 3) := by decide +kernel
theorem dX6_rehearse_4 : decode cX6_rehearse 4 = .ok (.aload_n 0, 1) := by decide +kernel
theorem dX6_rehearse_5 : decode cX6_rehearse 5 = .ok (.getfield 12, 3) := by decide +kernel
theorem dX6_rehearse_8 : decode cX6_rehearse 8 = .ok (.invokevirtual 256, 3) := by decide +kernel
theorem dX6_rehearse_11 : decode cX6_rehearse 11 = .ok (.iconst 0, 1) := by decide +kernel
theorem dX6_rehearse_12 : decode cX6_rehearse 12 = .ok (.istore_n 1, 1) := by decide +kernel
theorem dX6_rehearse_13 : decode cX6_rehearse 13 = .ok (.iload_n 1, 1) := by decide +kernel
theorem dX6_rehearse_14 : decode cX6_rehearse 14 = .ok (.aload_n 0, 1) := by decide +kernel
theorem dX6_rehearse_15 : decode cX6_rehearse 15 = .ok (.getfield 16, 3) := by decide +kernel
theorem dX6_rehearse_18 : decode cX6_rehearse 18 = .ok (.getfield 144, 3) := by decide +kernel
theorem dX6_rehearse_21 : decode cX6_rehearse 21 = .ok (.getfield 175, 3) := by decide +kernel
theorem dX6_rehearse_24 : decode cX6_rehearse 24 = .ok (.if_icmp .ge 26, 3) := by decide +kernel
theorem dX6_rehearse_27 : decode cX6_rehearse 27 = .ok (.aload_n 0, 1) := by decide +kernel
theorem dX6_rehearse_28 : decode cX6_rehearse 28 = .ok (.getfield 16, 3) := by decide +kernel
theorem dX6_rehearse_31 : decode cX6_rehearse 31 = .ok (.iload_n 1, 1) := by decide +kernel
theorem dX6_rehearse_32 : decode cX6_rehearse 32 = .ok (.aload_n 0, 1) := by decide +kernel
theorem dX6_rehearse_33 : decode cX6_rehearse 33 = .ok (.getfield 22, 3) := by decide +kernel
theorem dX6_rehearse_36 : decode cX6_rehearse 36 = .ok (.invokevirtual 297, 3) := by decide +kernel
theorem dX6_rehearse_39 : decode cX6_rehearse 39 = .ok (.ifCond .ne 5, 3) := by decide +kernel
theorem dX6_rehearse_42 : decode cX6_rehearse 42 = .ok (.iload_n 1, 1) := by decide +kernel
theorem dX6_rehearse_43 : decode cX6_rehearse 43 = .ok (.ireturn, 1) := by decide +kernel
theorem dX6_rehearse_44 : decode cX6_rehearse 44 = .ok (.iinc 1 1, 3) := by decide +kernel
theorem dX6_rehearse_47 : decode cX6_rehearse 47 = .ok (.goto (-34), 3) := by decide +kernel
theorem dX6_rehearse_50 : decode cX6_rehearse 50 = .ok (.bipush (-6), 2) := by decide +kernel
theorem dX6_rehearse_52 : decode cX6_rehearse 52 = .ok (.ireturn, 1) := by decide +kernel
theorem dX6_passDays_0 : decode cX6_passDays 0 = .ok (.iload_n 1, 1) := by decide +kernel
theorem dX6_passDays_1 : decode cX6_passDays 1 = .ok (.iconst 1, 1) := by decide +kernel
theorem dX6_passDays_2 : decode cX6_passDays 2 = .ok (.if_icmp .lt 9, 3) := by decide +kernel
theorem dX6_passDays_5 : decode cX6_passDays 5 = .ok (.iload_n 1, 1) := by decide +kernel
theorem dX6_passDays_6 : decode cX6_passDays 6 = .ok (.bipush 60, 2) := by decide +kernel
theorem dX6_passDays_8 : decode cX6_passDays 8 = .ok (.if_icmp .le 6, 3) := by decide +kernel
theorem dX6_passDays_11 : decode cX6_passDays 11 = .ok (.bipush (-2), 2) := by decide +kernel
theorem dX6_passDays_13 : decode cX6_passDays 13 = .ok (.ireturn, 1) := by decide +kernel
theorem dX6_passDays_14 : decode cX6_passDays 14 = .ok (.iconst 0, 1) := by decide +kernel
theorem dX6_passDays_15 : decode cX6_passDays 15 = .ok (.istore_n 2, 1) := by decide +kernel
theorem dX6_passDays_16 : decode cX6_passDays 16 = .ok (.iload_n 2, 1) := by decide +kernel
theorem dX6_passDays_17 : decode cX6_passDays 17 = .ok (.iload_n 1, 1) := by decide +kernel
theorem dX6_passDays_18 : decode cX6_passDays 18 = .ok (.if_icmp .ge 16, 3) := by decide +kernel
theorem dX6_passDays_21 : decode cX6_passDays 21 = .ok (.aload_n 0, 1) := by decide +kernel
theorem dX6_passDays_22 : decode cX6_passDays 22 = .ok (.getfield 12, 3) := by decide +kernel
theorem dX6_passDays_25 : decode cX6_passDays 25 = .ok (.invokevirtual 301, 3) := by decide +kernel
theorem dX6_passDays_28 : decode cX6_passDays 28 = .ok (.iinc 2 1, 3) := by decide +kernel
theorem dX6_passDays_31 : decode cX6_passDays 31 = .ok (.goto (-15), 3) := by decide +kernel
theorem dX6_passDays_34 : decode cX6_passDays 34 = .ok (.aload_n 0, 1) := by decide +kernel
theorem dX6_passDays_35 : decode cX6_passDays 35 = .ok (.getfield 12, 3) := by decide +kernel
theorem dX6_passDays_38 : decode cX6_passDays 38 = .ok (.getfield 156, 3) := by decide +kernel
theorem dX6_passDays_41 : decode cX6_passDays 41 = .ok (.ireturn, 1) := by decide +kernel
theorem dX6_copyBack_0 : decode cX6_copyBack 0 = .ok (.iload_n 1, 1) := by decide +kernel
theorem dX6_copyBack_1 : decode cX6_copyBack 1 = .ok (.invokestatic 253, 3) := by decide +kernel
theorem dX6_copyBack_4 : decode cX6_copyBack 4 = .ok (.ifCond .ne 6, 3) := by decide +kernel
theorem dX6_copyBack_7 : decode cX6_copyBack 7 = .ok (.bipush (-2), 2) := by decide +kernel
theorem dX6_copyBack_9 : decode cX6_copyBack 9 = .ok (.ireturn, 1) := by decide +kernel
theorem dX6_copyBack_10 : decode cX6_copyBack 10 = .ok (.aload_n 0, 1) := by decide +kernel
theorem dX6_copyBack_11 : decode cX6_copyBack 11 = .ok (.getfield 33, 3) := by decide +kernel
theorem dX6_copyBack_14 : decode cX6_copyBack 14 = .ok (.iload_n 1, 1) := by decide +kernel
theorem dX6_copyBack_15 : decode cX6_copyBack 15 = .ok (.aaload, 1) := by decide +kernel
theorem dX6_copyBack_16 : decode cX6_copyBack 16 = .ok (.astore_n 2, 1) := by decide +kernel
theorem dX6_copyBack_17 : decode cX6_copyBack 17 = .ok (.aload_n 2, 1) := by decide +kernel
theorem dX6_copyBack_18 : decode cX6_copyBack 18 = .ok (.ifnonnull 6, 3) := by decide +kernel
theorem dX6_copyBack_21 : decode cX6_copyBack 21 = .ok (.bipush (-5), 2) := by decide +kernel
theorem dX6_copyBack_23 : decode cX6_copyBack 23 = .ok (.ireturn, 1) := by decide +kernel
theorem dX6_copyBack_24 : decode cX6_copyBack 24 = .ok (.aload_n 0, 1) := by decide +kernel
theorem dX6_copyBack_25 : decode cX6_copyBack 25 = .ok (.getfield 12, 3) := by decide +kernel
theorem dX6_copyBack_28 : decode cX6_copyBack 28 = .ok (.aload_n 2, 1) := by decide +kernel
theorem dX6_copyBack_29 : decode cX6_copyBack 29 = .ok (.invokevirtual 256, 3) := by decide +kernel
theorem dX6_copyBack_32 : decode cX6_copyBack 32 = .ok (.aload_n 0, 1) := by decide +kernel
theorem dX6_copyBack_33 : decode cX6_copyBack 33 = .ok (.getfield 12, 3) := by decide +kernel
theorem dX6_copyBack_36 : decode cX6_copyBack 36 = .ok (.getfield 156, 3) := by decide +kernel
theorem dX6_copyBack_39 : decode cX6_copyBack 39 = .ok (.ireturn, 1) := by decide +kernel
theorem dX6_carryEntry_0 : decode cX6_carryEntry 0 = .ok (.aload_n 0, 1) := by decide +kernel
theorem dX6_carryEntry_1 : decode cX6_carryEntry 1 = .ok (.getfield 40, 3) := by decide +kernel
theorem dX6_carryEntry_4 : decode cX6_carryEntry 4 = .ok (.getfield 304, 3) := by decide +kernel
theorem dX6_carryEntry_7 : decode cX6_carryEntry 7 = .ok (.lookupswitch 144 #[(43, 49), (45, 75), (100, 132), (103, 94), (112, 113)], 49) := by decide +kernel
theorem dX6_carryEntry_56 : decode cX6_carryEntry 56 = .ok (.aload_n 0, 1) := by decide +kernel
theorem dX6_carryEntry_57 : decode cX6_carryEntry 57 = .ok (.aload_n 0, 1) := by decide +kernel
theorem dX6_carryEntry_58 : decode cX6_carryEntry 58 = .ok (.getfield 40, 3) := by decide +kernel
theorem dX6_carryEntry_61 : decode cX6_carryEntry 61 = .ok (.getfield 307, 3) := by decide +kernel
theorem dX6_carryEntry_64 : decode cX6_carryEntry 64 = .ok (.aload_n 0, 1) := by decide +kernel
theorem dX6_carryEntry_65 : decode cX6_carryEntry 65 = .ok (.getfield 40, 3) := by decide +kernel
theorem dX6_carryEntry_68 : decode cX6_carryEntry 68 = .ok (.getfield 310, 3) := by decide +kernel
theorem dX6_carryEntry_71 : decode cX6_carryEntry 71 = .ok (.aload_n 0, 1) := by decide +kernel
theorem dX6_carryEntry_72 : decode cX6_carryEntry 72 = .ok (.getfield 40, 3) := by decide +kernel
theorem dX6_carryEntry_75 : decode cX6_carryEntry 75 = .ok (.getfield 313, 3) := by decide +kernel
theorem dX6_carryEntry_78 : decode cX6_carryEntry 78 = .ok (.invokevirtual 62, 3) := by decide +kernel
theorem dX6_carryEntry_81 : decode cX6_carryEntry 81 = .ok (.ireturn, 1) := by decide +kernel
theorem dX6_carryEntry_82 : decode cX6_carryEntry 82 = .ok (.aload_n 0, 1) := by decide +kernel
theorem dX6_carryEntry_83 : decode cX6_carryEntry 83 = .ok (.aload_n 0, 1) := by decide +kernel
theorem dX6_carryEntry_84 : decode cX6_carryEntry 84 = .ok (.getfield 40, 3) := by decide +kernel
theorem dX6_carryEntry_87 : decode cX6_carryEntry 87 = .ok (.getfield 310, 3) := by decide +kernel
theorem dX6_carryEntry_90 : decode cX6_carryEntry 90 = .ok (.aload_n 0, 1) := by decide +kernel
theorem dX6_carryEntry_91 : decode cX6_carryEntry 91 = .ok (.getfield 40, 3) := by decide +kernel
theorem dX6_carryEntry_94 : decode cX6_carryEntry 94 = .ok (.getfield 313, 3) := by decide +kernel
theorem dX6_carryEntry_97 : decode cX6_carryEntry 97 = .ok (.invokevirtual 66, 3) := by decide +kernel
theorem dX6_carryEntry_100 : decode cX6_carryEntry 100 = .ok (.ireturn, 1) := by decide +kernel
theorem dX6_carryEntry_101 : decode cX6_carryEntry 101 = .ok (.aload_n 0, 1) := by decide +kernel
theorem dX6_carryEntry_102 : decode cX6_carryEntry 102 = .ok (.aload_n 0, 1) := by decide +kernel
theorem dX6_carryEntry_103 : decode cX6_carryEntry 103 = .ok (.getfield 40, 3) := by decide +kernel
theorem dX6_carryEntry_106 : decode cX6_carryEntry 106 = .ok (.getfield 307, 3) := by decide +kernel
theorem dX6_carryEntry_109 : decode cX6_carryEntry 109 = .ok (.aload_n 0, 1) := by decide +kernel
theorem dX6_carryEntry_110 : decode cX6_carryEntry 110 = .ok (.getfield 40, 3) := by decide +kernel
theorem dX6_carryEntry_113 : decode cX6_carryEntry 113 = .ok (.getfield 310, 3) := by decide +kernel
theorem dX6_carryEntry_116 : decode cX6_carryEntry 116 = .ok (.invokevirtual 69, 3) := by decide +kernel
theorem dX6_carryEntry_119 : decode cX6_carryEntry 119 = .ok (.ireturn, 1) := by decide +kernel
theorem dX6_carryEntry_120 : decode cX6_carryEntry 120 = .ok (.aload_n 0, 1) := by decide +kernel
theorem dX6_carryEntry_121 : decode cX6_carryEntry 121 = .ok (.aload_n 0, 1) := by decide +kernel
theorem dX6_carryEntry_122 : decode cX6_carryEntry 122 = .ok (.getfield 40, 3) := by decide +kernel
theorem dX6_carryEntry_125 : decode cX6_carryEntry 125 = .ok (.getfield 307, 3) := by decide +kernel
theorem dX6_carryEntry_128 : decode cX6_carryEntry 128 = .ok (.aload_n 0, 1) := by decide +kernel
theorem dX6_carryEntry_129 : decode cX6_carryEntry 129 = .ok (.getfield 40, 3) := by decide +kernel
theorem dX6_carryEntry_132 : decode cX6_carryEntry 132 = .ok (.getfield 310, 3) := by decide +kernel
theorem dX6_carryEntry_135 : decode cX6_carryEntry 135 = .ok (.invokevirtual 59, 3) := by decide +kernel
theorem dX6_carryEntry_138 : decode cX6_carryEntry 138 = .ok (.ireturn, 1) := by decide +kernel
theorem dX6_carryEntry_139 : decode cX6_carryEntry 139 = .ok (.aload_n 0, 1) := by decide +kernel
theorem dX6_carryEntry_140 : decode cX6_carryEntry 140 = .ok (.aload_n 0, 1) := by decide +kernel
theorem dX6_carryEntry_141 : decode cX6_carryEntry 141 = .ok (.getfield 40, 3) := by decide +kernel
theorem dX6_carryEntry_144 : decode cX6_carryEntry 144 = .ok (.getfield 310, 3) := by decide +kernel
theorem dX6_carryEntry_147 : decode cX6_carryEntry 147 = .ok (.invokevirtual 89, 3) := by decide +kernel
theorem dX6_carryEntry_150 : decode cX6_carryEntry 150 = .ok (.ireturn, 1) := by decide +kernel
theorem dX6_carryEntry_151 : decode cX6_carryEntry 151 = .ok (.bipush (-3), 2) := by decide +kernel
theorem dX6_carryEntry_153 : decode cX6_carryEntry 153 = .ok (.ireturn, 1) := by decide +kernel
theorem dX6_bitsOfQuotient_0 : decode cX6_bitsOfQuotient 0 = .ok (.iload_n 0, 1) := by decide +kernel
theorem dX6_bitsOfQuotient_1 : decode cX6_bitsOfQuotient 1 = .ok (.ifCond .le 12, 3) := by decide +kernel
theorem dX6_bitsOfQuotient_4 : decode cX6_bitsOfQuotient 4 = .ok (.iload_n 1, 1) := by decide +kernel
theorem dX6_bitsOfQuotient_5 : decode cX6_bitsOfQuotient 5 = .ok (.ifCond .le 8, 3) := by decide +kernel
theorem dX6_bitsOfQuotient_8 : decode cX6_bitsOfQuotient 8 = .ok (.iload_n 0, 1) := by decide +kernel
theorem dX6_bitsOfQuotient_9 : decode cX6_bitsOfQuotient 9 = .ok (.iload_n 1, 1) := by decide +kernel
theorem dX6_bitsOfQuotient_10 : decode cX6_bitsOfQuotient 10 = .ok (.if_icmp .le 5, 3) := by decide +kernel
theorem dX6_bitsOfQuotient_13 : decode cX6_bitsOfQuotient 13 = .ok (.iconst 0, 1) := by decide +kernel
theorem dX6_bitsOfQuotient_14 : decode cX6_bitsOfQuotient 14 = .ok (.ireturn, 1) := by decide +kernel
theorem dX6_bitsOfQuotient_15 : decode cX6_bitsOfQuotient 15 = .ok (.iload_n 0, 1) := by decide +kernel
theorem dX6_bitsOfQuotient_16 : decode cX6_bitsOfQuotient 16 = .ok (.i2l, 1) := by decide +kernel
theorem dX6_bitsOfQuotient_17 : decode cX6_bitsOfQuotient 17 = .ok (.lstore_n 2, 1) := by decide +kernel
theorem dX6_bitsOfQuotient_18 : decode cX6_bitsOfQuotient 18 = .ok (.bipush 127, 2) := by decide +kernel
theorem dX6_bitsOfQuotient_20 : decode cX6_bitsOfQuotient 20 = .ok (.istore 4, 2) := by decide +kernel
theorem dX6_bitsOfQuotient_22 : decode cX6_bitsOfQuotient 22 = .ok (.lload_n 2, 1) := by decide +kernel
theorem dX6_bitsOfQuotient_23 : decode cX6_bitsOfQuotient 23 = .ok (.iload_n 1, 1) := by decide +kernel
theorem dX6_bitsOfQuotient_24 : decode cX6_bitsOfQuotient 24 = .ok (.i2l, 1) := by decide +kernel
theorem dX6_bitsOfQuotient_25 : decode cX6_bitsOfQuotient 25 = .ok (.lcmp, 1) := by decide +kernel
theorem dX6_bitsOfQuotient_26 : decode cX6_bitsOfQuotient 26 = .ok (.ifCond .ge 20, 3) := by decide +kernel
theorem dX6_bitsOfQuotient_29 : decode cX6_bitsOfQuotient 29 = .ok (.iload 4, 2) := by decide +kernel
theorem dX6_bitsOfQuotient_31 : decode cX6_bitsOfQuotient 31 = .ok (.ifCond .le 15, 3) := by decide +kernel
theorem dX6_bitsOfQuotient_34 : decode cX6_bitsOfQuotient 34 = .ok (.lload_n 2, 1) := by decide +kernel
theorem dX6_bitsOfQuotient_35 : decode cX6_bitsOfQuotient 35 = .ok (.ldc2_w 316, 3) := by decide +kernel
theorem dX6_bitsOfQuotient_38 : decode cX6_bitsOfQuotient 38 = .ok (.lmul, 1) := by decide +kernel
theorem dX6_bitsOfQuotient_39 : decode cX6_bitsOfQuotient 39 = .ok (.lstore_n 2, 1) := by decide +kernel
theorem dX6_bitsOfQuotient_40 : decode cX6_bitsOfQuotient 40 = .ok (.iinc 4 (-1), 3) := by decide +kernel
theorem dX6_bitsOfQuotient_43 : decode cX6_bitsOfQuotient 43 = .ok (.goto (-21), 3) := by decide +kernel
theorem dX6_bitsOfQuotient_46 : decode cX6_bitsOfQuotient 46 = .ok (.lload_n 2, 1) := by decide +kernel
theorem dX6_bitsOfQuotient_47 : decode cX6_bitsOfQuotient 47 = .ok (.bipush 23, 2) := by decide +kernel
theorem dX6_bitsOfQuotient_49 : decode cX6_bitsOfQuotient 49 = .ok (.lshl, 1) := by decide +kernel
theorem dX6_bitsOfQuotient_50 : decode cX6_bitsOfQuotient 50 = .ok (.lstore_n 2, 1) := by decide +kernel
theorem dX6_bitsOfQuotient_51 : decode cX6_bitsOfQuotient 51 = .ok (.ldc2_w 316, 3) := by decide +kernel
theorem dX6_bitsOfQuotient_54 : decode cX6_bitsOfQuotient 54 = .ok (.lload_n 2, 1) := by decide +kernel
theorem dX6_bitsOfQuotient_55 : decode cX6_bitsOfQuotient 55 = .ok (.lmul, 1) := by decide +kernel
theorem dX6_bitsOfQuotient_56 : decode cX6_bitsOfQuotient 56 = .ok (.iload_n 1, 1) := by decide +kernel
theorem dX6_bitsOfQuotient_57 : decode cX6_bitsOfQuotient 57 = .ok (.i2l, 1) := by decide +kernel
theorem dX6_bitsOfQuotient_58 : decode cX6_bitsOfQuotient 58 = .ok (.ladd, 1) := by decide +kernel
theorem dX6_bitsOfQuotient_59 : decode cX6_bitsOfQuotient 59 = .ok (.ldc2_w 316, 3) := by decide +kernel
theorem dX6_bitsOfQuotient_62 : decode cX6_bitsOfQuotient 62 = .ok (.iload_n 1, 1) := by decide +kernel
theorem dX6_bitsOfQuotient_63 : decode cX6_bitsOfQuotient 63 = .ok (.i2l, 1) := by decide +kernel
theorem dX6_bitsOfQuotient_64 : decode cX6_bitsOfQuotient 64 = .ok (.lmul, 1) := by decide +kernel
theorem dX6_bitsOfQuotient_65 : decode cX6_bitsOfQuotient 65 = .ok (.ldiv, 1) := by decide +kernel
theorem dX6_bitsOfQuotient_66 : decode cX6_bitsOfQuotient 66 = .ok (.lstore 5, 2) := by decide +kernel
theorem dX6_bitsOfQuotient_68 : decode cX6_bitsOfQuotient 68 = .ok (.iload 4, 2) := by decide +kernel
theorem dX6_bitsOfQuotient_70 : decode cX6_bitsOfQuotient 70 = .ok (.iconst 1, 1) := by decide +kernel
theorem dX6_bitsOfQuotient_71 : decode cX6_bitsOfQuotient 71 = .ok (.isub, 1) := by decide +kernel
theorem dX6_bitsOfQuotient_72 : decode cX6_bitsOfQuotient 72 = .ok (.bipush 23, 2) := by decide +kernel
theorem dX6_bitsOfQuotient_74 : decode cX6_bitsOfQuotient 74 = .ok (.ishl, 1) := by decide +kernel
theorem dX6_bitsOfQuotient_75 : decode cX6_bitsOfQuotient 75 = .ok (.lload 5, 2) := by decide +kernel
theorem dX6_bitsOfQuotient_77 : decode cX6_bitsOfQuotient 77 = .ok (.l2i, 1) := by decide +kernel
theorem dX6_bitsOfQuotient_78 : decode cX6_bitsOfQuotient 78 = .ok (.iadd, 1) := by decide +kernel
theorem dX6_bitsOfQuotient_79 : decode cX6_bitsOfQuotient 79 = .ok (.ireturn, 1) := by decide +kernel
theorem dX7_init_0 : decode cX7_init 0 = .ok (.aload_n 0, 1) := by decide +kernel
theorem dX7_init_1 : decode cX7_init 1 = .ok (.invokespecial 1, 3) := by decide +kernel
theorem dX7_init_4 : decode cX7_init 4 = .ok (.aload_n 0, 1) := by decide +kernel
theorem dX7_init_5 : decode cX7_init 5 = .ok (.sipush 400, 3) := by decide +kernel
theorem dX7_init_8 : decode cX7_init 8 = .ok (.newarray .int, 2) := by decide +kernel
theorem dX7_init_10 : decode cX7_init 10 = .ok (.putfield 7, 3) := by decide +kernel
theorem dX7_init_13 : decode cX7_init 13 = .ok (.aload_n 0, 1) := by decide +kernel
theorem dX7_init_14 : decode cX7_init 14 = .ok (.bipush 10, 2) := by decide +kernel
theorem dX7_init_16 : decode cX7_init 16 = .ok (.newarray .long, 2) := by decide +kernel
theorem dX7_init_18 : decode cX7_init 18 = .ok (.putfield 13, 3) := by decide +kernel
theorem dX7_init_21 : decode cX7_init 21 = .ok (.aload_n 0, 1) := by decide +kernel
theorem dX7_init_22 : decode cX7_init 22 = .ok (.sipush 400, 3) := by decide +kernel
theorem dX7_init_25 : decode cX7_init 25 = .ok (.newarray .int, 2) := by decide +kernel
theorem dX7_init_27 : decode cX7_init 27 = .ok (.putfield 17, 3) := by decide +kernel
theorem dX7_init_30 : decode cX7_init 30 = .ok (.aload_n 0, 1) := by decide +kernel
theorem dX7_init_31 : decode cX7_init 31 = .ok (.bipush 10, 2) := by decide +kernel
theorem dX7_init_33 : decode cX7_init 33 = .ok (.newarray .long, 2) := by decide +kernel
theorem dX7_init_35 : decode cX7_init 35 = .ok (.putfield 20, 3) := by decide +kernel
theorem dX7_init_38 : decode cX7_init 38 = .ok (.aload_n 0, 1) := by decide +kernel
theorem dX7_init_39 : decode cX7_init 39 = .ok (.sipush 400, 3) := by decide +kernel
theorem dX7_init_42 : decode cX7_init 42 = .ok (.newarray .int, 2) := by decide +kernel
theorem dX7_init_44 : decode cX7_init 44 = .ok (.putfield 23, 3) := by decide +kernel
theorem dX7_init_47 : decode cX7_init 47 = .ok (.aload_n 0, 1) := by decide +kernel
theorem dX7_init_48 : decode cX7_init 48 = .ok (.sipush 2400, 3) := by decide +kernel
theorem dX7_init_51 : decode cX7_init 51 = .ok (.newarray .int, 2) := by decide +kernel
theorem dX7_init_53 : decode cX7_init 53 = .ok (.putfield 26, 3) := by decide +kernel
theorem dX7_init_56 : decode cX7_init 56 = .ok (.aload_n 0, 1) := by decide +kernel
theorem dX7_init_57 : decode cX7_init 57 = .ok (.bipush 60, 2) := by decide +kernel
theorem dX7_init_59 : decode cX7_init 59 = .ok (.newarray .long, 2) := by decide +kernel
theorem dX7_init_61 : decode cX7_init 61 = .ok (.putfield 29, 3) := by decide +kernel
theorem dX7_init_64 : decode cX7_init 64 = .ok (.aload_n 0, 1) := by decide +kernel
theorem dX7_init_65 : decode cX7_init 65 = .ok (.sipush 800, 3) := by decide +kernel
theorem dX7_init_68 : decode cX7_init 68 = .ok (.newarray .int, 2) := by decide +kernel
theorem dX7_init_70 : decode cX7_init 70 = .ok (.putfield 32, 3) := by decide +kernel
theorem dX7_init_73 : decode cX7_init 73 = .ok (.aload_n 0, 1) := by decide +kernel
theorem dX7_init_74 : decode cX7_init 74 = .ok (.bipush 20, 2) := by decide +kernel
theorem dX7_init_76 : decode cX7_init 76 = .ok (.newarray .long, 2) := by decide +kernel
theorem dX7_init_78 : decode cX7_init 78 = .ok (.putfield 35, 3) := by decide +kernel
theorem dX7_init_81 : decode cX7_init 81 = .ok (.aload_n 0, 1) := by decide +kernel
theorem dX7_init_82 : decode cX7_init 82 = .ok (.iconst 2, 1) := by decide +kernel
theorem dX7_init_83 : decode cX7_init 83 = .ok (.newarray .boolean, 2) := by decide +kernel
theorem dX7_init_85 : decode cX7_init 85 = .ok (.putfield 38, 3) := by decide +kernel
theorem dX7_init_88 : decode cX7_init 88 = .ok (.aload_n 0, 1) := by decide +kernel
theorem dX7_init_89 : decode cX7_init 89 = .ok (.bipush 80, 2) := by decide +kernel
theorem dX7_init_91 : decode cX7_init 91 = .ok (.newarray .int, 2) := by decide +kernel
theorem dX7_init_93 : decode cX7_init 93 = .ok (.putfield 42, 3) := by decide +kernel
theorem dX7_init_96 : decode cX7_init 96 = .ok (.aload_n 0, 1) := by decide +kernel
theorem dX7_init_97 : decode cX7_init 97 = .ok (.sipush 200, 3) := by decide +kernel
theorem dX7_init_100 : decode cX7_init 100 = .ok (.newarray .int, 2) := by decide +kernel
theorem dX7_init_102 : decode cX7_init 102 = .ok (.putfield 45, 3) := by decide +kernel
theorem dX7_init_105 : decode cX7_init 105 = .ok (.aload_n 0, 1) := by decide +kernel
theorem dX7_init_106 : decode cX7_init 106 = .ok (.sipush 200, 3) := by decide +kernel
theorem dX7_init_109 : decode cX7_init 109 = .ok (.newarray .int, 2) := by decide +kernel
theorem dX7_init_111 : decode cX7_init 111 = .ok (.putfield 48, 3) := by decide +kernel
theorem dX7_init_114 : decode cX7_init 114 = .ok (.aload_n 0, 1) := by decide +kernel
theorem dX7_init_115 : decode cX7_init 115 = .ok (.sipush 240, 3) := by decide +kernel
theorem dX7_init_118 : decode cX7_init 118 = .ok (.newarray .int, 2) := by decide +kernel
theorem dX7_init_120 : decode cX7_init 120 = .ok (.putfield 51, 3) := by decide +kernel
theorem dX7_init_123 : decode cX7_init 123 = .ok (.aload_n 0, 1) := by decide +kernel
theorem dX7_init_124 : decode cX7_init 124 = .ok (.getfield 7, 3) := by decide +kernel
theorem dX7_init_127 : decode cX7_init 127 = .ok (.iconst 0, 1) := by decide +kernel
theorem dX7_init_128 : decode cX7_init 128 = .ok (.bipush 10, 2) := by decide +kernel
theorem dX7_init_130 : decode cX7_init 130 = .ok (.iastore, 1) := by decide +kernel
theorem dX7_init_131 : decode cX7_init 131 = .ok (.aload_n 0, 1) := by decide +kernel
theorem dX7_init_132 : decode cX7_init 132 = .ok (.getfield 7, 3) := by decide +kernel
theorem dX7_init_135 : decode cX7_init 135 = .ok (.iconst 1, 1) := by decide +kernel
theorem dX7_init_136 : decode cX7_init 136 = .ok (.bipush 25, 2) := by decide +kernel
theorem dX7_init_138 : decode cX7_init 138 = .ok (.iastore, 1) := by decide +kernel
theorem dX7_init_139 : decode cX7_init 139 = .ok (.aload_n 0, 1) := by decide +kernel
theorem dX7_init_140 : decode cX7_init 140 = .ok (.getfield 7, 3) := by decide +kernel
theorem dX7_init_143 : decode cX7_init 143 = .ok (.iconst 2, 1) := by decide +kernel
theorem dX7_init_144 : decode cX7_init 144 = .ok (.iconst 5, 1) := by decide +kernel
theorem dX7_init_145 : decode cX7_init 145 = .ok (.iastore, 1) := by decide +kernel
theorem dX7_init_146 : decode cX7_init 146 = .ok (.aload_n 0, 1) := by decide +kernel
theorem dX7_init_147 : decode cX7_init 147 = .ok (.getfield 7, 3) := by decide +kernel
theorem dX7_init_150 : decode cX7_init 150 = .ok (.iconst 3, 1) := by decide +kernel
theorem dX7_init_151 : decode cX7_init 151 = .ok (.iconst 1, 1) := by decide +kernel
theorem dX7_init_152 : decode cX7_init 152 = .ok (.iastore, 1) := by decide +kernel
theorem dX7_init_153 : decode cX7_init 153 = .ok (.aload_n 0, 1) := by decide +kernel
theorem dX7_init_154 : decode cX7_init 154 = .ok (.getfield 7, 3) := by decide +kernel
theorem dX7_init_157 : decode cX7_init 157 = .ok (.iconst 4, 1) := by decide +kernel
theorem dX7_init_158 : decode cX7_init 158 = .ok (.sipush 10000, 3) := by decide +kernel
theorem dX7_init_161 : decode cX7_init 161 = .ok (.iastore, 1) := by decide +kernel
theorem dX7_init_162 : decode cX7_init 162 = .ok (.aload_n 0, 1) := by decide +kernel
theorem dX7_init_163 : decode cX7_init 163 = .ok (.getfield 7, 3) := by decide +kernel
theorem dX7_init_166 : decode cX7_init 166 = .ok (.bipush 7, 2) := by decide +kernel
theorem dX7_init_168 : decode cX7_init 168 = .ok (.iconst 1, 1) := by decide +kernel
theorem dX7_init_169 : decode cX7_init 169 = .ok (.iastore, 1) := by decide +kernel
theorem dX7_init_170 : decode cX7_init 170 = .ok (.aload_n 0, 1) := by decide +kernel
theorem dX7_init_171 : decode cX7_init 171 = .ok (.getfield 7, 3) := by decide +kernel
theorem dX7_init_174 : decode cX7_init 174 = .ok (.bipush 100, 2) := by decide +kernel
theorem dX7_init_176 : decode cX7_init 176 = .ok (.iconst 0, 1) := by decide +kernel
theorem dX7_init_177 : decode cX7_init 177 = .ok (.iastore, 1) := by decide +kernel
theorem dX7_init_178 : decode cX7_init 178 = .ok (.aload_n 0, 1) := by decide +kernel
theorem dX7_init_179 : decode cX7_init 179 = .ok (.getfield 7, 3) := by decide +kernel
theorem dX7_init_182 : decode cX7_init 182 = .ok (.bipush 101, 2) := by decide +kernel
theorem dX7_init_184 : decode cX7_init 184 = .ok (.bipush (-6), 2) := by decide +kernel
theorem dX7_init_186 : decode cX7_init 186 = .ok (.iastore, 1) := by decide +kernel
theorem dX7_init_187 : decode cX7_init 187 = .ok (.return_, 1) := by decide +kernel
theorem dX7_in_0 : decode cX7_in 0 = .ok (.iload_n 0, 1) := by decide +kernel
theorem dX7_in_1 : decode cX7_in 1 = .ok (.iload_n 1, 1) := by decide +kernel
theorem dX7_in_2 : decode cX7_in 2 = .ok (.if_icmp .lt 12, 3) := by decide +kernel
theorem dX7_in_5 : decode cX7_in 5 = .ok (.iload_n 0, 1) := by decide +kernel
theorem dX7_in_6 : decode cX7_in 6 = .ok (.iload_n 2, 1) := by decide +kernel
theorem dX7_in_7 : decode cX7_in 7 = .ok (.if_icmp .gt 7, 3) := by decide +kernel
theorem dX7_in_10 : decode cX7_in 10 = .ok (.iconst 1, 1) := by decide +kernel
theorem dX7_in_11 : decode cX7_in 11 = .ok (.goto 4, 3) := by decide +kernel
theorem dX7_in_14 : decode cX7_in 14 = .ok (.iconst 0, 1) := by decide +kernel
theorem dX7_in_15 : decode cX7_in 15 = .ok (.ireturn, 1) := by decide +kernel
theorem dX7_record_0 : decode cX7_record 0 = .ok (.aload_n 0, 1) := by decide +kernel
theorem dX7_record_1 : decode cX7_record 1 = .ok (.getfield 54, 3) := by decide +kernel
theorem dX7_record_4 : decode cX7_record 4 = .ok (.ifCond .eq 4, 3) := by decide +kernel
theorem dX7_record_7 : decode cX7_record 7 = .ok (.return_, 1) := by decide +kernel
theorem dX7_record_8 : decode cX7_record 8 = .ok (.aload_n 0, 1) := by decide +kernel
theorem dX7_record_9 : decode cX7_record 9 = .ok (.getfield 58, 3) := by decide +kernel
theorem dX7_record_12 : decode cX7_record 12 = .ok (.bipush 6, 2) := by decide +kernel
theorem dX7_record_14 : decode cX7_record 14 = .ok (.if_icmp .ne 68, 3) := by decide +kernel
theorem dX7_record_17 : decode cX7_record 17 = .ok (.iconst 0, 1) := by decide +kernel
theorem dX7_record_18 : decode cX7_record 18 = .ok (.istore_n 1, 1) := by decide +kernel
theorem dX7_record_19 : decode cX7_record 19 = .ok (.iload_n 1, 1) := by decide +kernel
theorem dX7_record_20 : decode cX7_record 20 = .ok (.sipush 2000, 3) := by decide +kernel
theorem dX7_record_23 : decode cX7_record 23 = .ok (.if_icmp .ge 25, 3) := by decide +kernel
theorem dX7_record_26 : decode cX7_record 26 = .ok (.aload_n 0, 1) := by decide +kernel
theorem dX7_record_27 : decode cX7_record 27 = .ok (.getfield 26, 3) := by decide +kernel
theorem dX7_record_30 : decode cX7_record 30 = .ok (.iload_n 1, 1) := by decide +kernel
theorem dX7_record_31 : decode cX7_record 31 = .ok (.aload_n 0, 1) := by decide +kernel
theorem dX7_record_32 : decode cX7_record 32 = .ok (.getfield 26, 3) := by decide +kernel
theorem dX7_record_35 : decode cX7_record 35 = .ok (.iload_n 1, 1) := by decide +kernel
theorem dX7_record_36 : decode cX7_record 36 = .ok (.sipush 400, 3) := by decide +kernel
theorem dX7_record_39 : decode cX7_record 39 = .ok (.iadd, 1) := by decide +kernel
theorem dX7_record_40 : decode cX7_record 40 = .ok (.iaload, 1) := by decide +kernel
theorem dX7_record_41 : decode cX7_record 41 = .ok (.iastore, 1) := by decide +kernel
theorem dX7_record_42 : decode cX7_record 42 = .ok (.iinc 1 1, 3) := by decide +kernel
theorem dX7_record_45 : decode cX7_record 45 = .ok (.goto (-26), 3) := by decide +kernel
theorem dX7_record_48 : decode cX7_record 48 = .ok (.iconst 0, 1) := by decide +kernel
theorem dX7_record_49 : decode cX7_record 49 = .ok (.istore_n 1, 1) := by decide +kernel
theorem dX7_record_50 : decode cX7_record 50 = .ok (.iload_n 1, 1) := by decide +kernel
theorem dX7_record_51 : decode cX7_record 51 = .ok (.bipush 50, 2) := by decide +kernel
theorem dX7_record_53 : decode cX7_record 53 = .ok (.if_icmp .ge 24, 3) := by decide +kernel
theorem dX7_record_56 : decode cX7_record 56 = .ok (.aload_n 0, 1) := by decide +kernel
theorem dX7_record_57 : decode cX7_record 57 = .ok (.getfield 29, 3) := by decide +kernel
theorem dX7_record_60 : decode cX7_record 60 = .ok (.iload_n 1, 1) := by decide +kernel
theorem dX7_record_61 : decode cX7_record 61 = .ok (.aload_n 0, 1) := by decide +kernel
theorem dX7_record_62 : decode cX7_record 62 = .ok (.getfield 29, 3) := by decide +kernel
theorem dX7_record_65 : decode cX7_record 65 = .ok (.iload_n 1, 1) := by decide +kernel
theorem dX7_record_66 : decode cX7_record 66 = .ok (.bipush 10, 2) := by decide +kernel
theorem dX7_record_68 : decode cX7_record 68 = .ok (.iadd, 1) := by decide +kernel
theorem dX7_record_69 : decode cX7_record 69 = .ok (.laload, 1) := by decide +kernel
theorem dX7_record_70 : decode cX7_record 70 = .ok (.lastore, 1) := by decide +kernel
theorem dX7_record_71 : decode cX7_record 71 = .ok (.iinc 1 1, 3) := by decide +kernel
theorem dX7_record_74 : decode cX7_record 74 = .ok (.goto (-24), 3) := by decide +kernel
theorem dX7_record_77 : decode cX7_record 77 = .ok (.aload_n 0, 1) := by decide +kernel
theorem dX7_record_78 : decode cX7_record 78 = .ok (.iconst 5, 1) := by decide +kernel
theorem dX7_record_79 : decode cX7_record 79 = .ok (.putfield 58, 3) := by decide +kernel
theorem dX7_record_82 : decode cX7_record 82 = .ok (.iconst 0, 1) := by decide +kernel
theorem dX7_record_83 : decode cX7_record 83 = .ok (.istore_n 1, 1) := by decide +kernel
theorem dX7_record_84 : decode cX7_record 84 = .ok (.iload_n 1, 1) := by decide +kernel
theorem dX7_record_85 : decode cX7_record 85 = .ok (.sipush 400, 3) := by decide +kernel
theorem dX7_record_88 : decode cX7_record 88 = .ok (.if_icmp .ge 30, 3) := by decide +kernel
theorem dX7_record_91 : decode cX7_record 91 = .ok (.aload_n 0, 1) := by decide +kernel
theorem dX7_record_92 : decode cX7_record 92 = .ok (.getfield 26, 3) := by decide +kernel
theorem dX7_record_95 : decode cX7_record 95 = .ok (.aload_n 0, 1) := by decide +kernel
theorem dX7_record_96 : decode cX7_record 96 = .ok (.getfield 58, 3) := by decide +kernel
theorem dX7_record_99 : decode cX7_record 99 = .ok (.sipush 400, 3) := by decide +kernel
theorem dX7_record_102 : decode cX7_record 102 = .ok (.imul, 1) := by decide +kernel
theorem dX7_record_103 : decode cX7_record 103 = .ok (.iload_n 1, 1) := by decide +kernel
theorem dX7_record_104 : decode cX7_record 104 = .ok (.iadd, 1) := by decide +kernel
theorem dX7_record_105 : decode cX7_record 105 = .ok (.aload_n 0, 1) := by decide +kernel
theorem dX7_record_106 : decode cX7_record 106 = .ok (.getfield 7, 3) := by decide +kernel
theorem dX7_record_109 : decode cX7_record 109 = .ok (.iload_n 1, 1) := by decide +kernel
theorem dX7_record_110 : decode cX7_record 110 = .ok (.iaload, 1) := by decide +kernel
theorem dX7_record_111 : decode cX7_record 111 = .ok (.iastore, 1) := by decide +kernel
theorem dX7_record_112 : decode cX7_record 112 = .ok (.iinc 1 1, 3) := by decide +kernel
theorem dX7_record_115 : decode cX7_record 115 = .ok (.goto (-31), 3) := by decide +kernel
theorem dX7_record_118 : decode cX7_record 118 = .ok (.iconst 0, 1) := by decide +kernel
theorem dX7_record_119 : decode cX7_record 119 = .ok (.istore_n 1, 1) := by decide +kernel
theorem dX7_record_120 : decode cX7_record 120 = .ok (.iload_n 1, 1) := by decide +kernel
theorem dX7_record_121 : decode cX7_record 121 = .ok (.bipush 10, 2) := by decide +kernel
theorem dX7_record_123 : decode cX7_record 123 = .ok (.if_icmp .ge 29, 3) := by decide +kernel
theorem dX7_record_126 : decode cX7_record 126 = .ok (.aload_n 0, 1) := by decide +kernel
theorem dX7_record_127 : decode cX7_record 127 = .ok (.getfield 29, 3) := by decide +kernel
theorem dX7_record_130 : decode cX7_record 130 = .ok (.aload_n 0, 1) := by decide +kernel
theorem dX7_record_131 : decode cX7_record 131 = .ok (.getfield 58, 3) := by decide +kernel
theorem dX7_record_134 : decode cX7_record 134 = .ok (.bipush 10, 2) := by decide +kernel
theorem dX7_record_136 : decode cX7_record 136 = .ok (.imul, 1) := by decide +kernel
theorem dX7_record_137 : decode cX7_record 137 = .ok (.iload_n 1, 1) := by decide +kernel
theorem dX7_record_138 : decode cX7_record 138 = .ok (.iadd, 1) := by decide +kernel
theorem dX7_record_139 : decode cX7_record 139 = .ok (.aload_n 0, 1) := by decide +kernel
theorem dX7_record_140 : decode cX7_record 140 = .ok (.getfield 13, 3) := by decide +kernel
theorem dX7_record_143 : decode cX7_record 143 = .ok (.iload_n 1, 1) := by decide +kernel
theorem dX7_record_144 : decode cX7_record 144 = .ok (.laload, 1) := by decide +kernel
theorem dX7_record_145 : decode cX7_record 145 = .ok (.lastore, 1) := by decide +kernel
theorem dX7_record_146 : decode cX7_record 146 = .ok (.iinc 1 1, 3) := by decide +kernel
theorem dX7_record_149 : decode cX7_record 149 = .ok (.goto (-29), 3) := by decide +kernel
theorem dX7_record_152 : decode cX7_record 152 = .ok (.aload_n 0, 1) := by decide +kernel
theorem dX7_record_153 : decode cX7_record 153 = .ok (.dup, 1) := by decide +kernel
theorem dX7_record_154 : decode cX7_record 154 = .ok (.getfield 58, 3) := by decide +kernel
theorem dX7_record_157 : decode cX7_record 157 = .ok (.iconst 1, 1) := by decide +kernel
theorem dX7_record_158 : decode cX7_record 158 = .ok (.iadd, 1) := by decide +kernel
theorem dX7_record_159 : decode cX7_record 159 = .ok (.putfield 58, 3) := by decide +kernel
theorem dX7_record_162 : decode cX7_record 162 = .ok (.return_, 1) := by decide +kernel
theorem dX7_keep_0 : decode cX7_keep 0 = .ok (.iconst 0, 1) := by decide +kernel
theorem dX7_keep_1 : decode cX7_keep 1 = .ok (.istore_n 1, 1) := by decide +kernel
theorem dX7_keep_2 : decode cX7_keep 2 = .ok (.iload_n 1, 1) := by decide +kernel
theorem dX7_keep_3 : decode cX7_keep 3 = .ok (.sipush 400, 3) := by decide +kernel
theorem dX7_keep_6 : decode cX7_keep 6 = .ok (.if_icmp .ge 21, 3) := by decide +kernel
theorem dX7_keep_9 : decode cX7_keep 9 = .ok (.aload_n 0, 1) := by decide +kernel
theorem dX7_keep_10 : decode cX7_keep 10 = .ok (.getfield 17, 3) := by decide +kernel
theorem dX7_keep_13 : decode cX7_keep 13 = .ok (.iload_n 1, 1) := by decide +kernel
theorem dX7_keep_14 : decode cX7_keep 14 = .ok (.aload_n 0, 1) := by decide +kernel
theorem dX7_keep_15 : decode cX7_keep 15 = .ok (.getfield 7, 3) := by decide +kernel
theorem dX7_keep_18 : decode cX7_keep 18 = .ok (.iload_n 1, 1) := by decide +kernel
theorem dX7_keep_19 : decode cX7_keep 19 = .ok (.iaload, 1) := by decide +kernel
theorem dX7_keep_20 : decode cX7_keep 20 = .ok (.iastore, 1) := by decide +kernel
theorem dX7_keep_21 : decode cX7_keep 21 = .ok (.iinc 1 1, 3) := by decide +kernel
theorem dX7_keep_24 : decode cX7_keep 24 = .ok (.goto (-22), 3) := by decide +kernel
theorem dX7_keep_27 : decode cX7_keep 27 = .ok (.iconst 0, 1) := by decide +kernel
theorem dX7_keep_28 : decode cX7_keep 28 = .ok (.istore_n 1, 1) := by decide +kernel
theorem dX7_keep_29 : decode cX7_keep 29 = .ok (.iload_n 1, 1) := by decide +kernel
theorem dX7_keep_30 : decode cX7_keep 30 = .ok (.bipush 10, 2) := by decide +kernel
theorem dX7_keep_32 : decode cX7_keep 32 = .ok (.if_icmp .ge 21, 3) := by decide +kernel
theorem dX7_keep_35 : decode cX7_keep 35 = .ok (.aload_n 0, 1) := by decide +kernel
theorem dX7_keep_36 : decode cX7_keep 36 = .ok (.getfield 20, 3) := by decide +kernel
theorem dX7_keep_39 : decode cX7_keep 39 = .ok (.iload_n 1, 1) := by decide +kernel
theorem dX7_keep_40 : decode cX7_keep 40 = .ok (.aload_n 0, 1) := by decide +kernel
theorem dX7_keep_41 : decode cX7_keep 41 = .ok (.getfield 13, 3) := by decide +kernel
theorem dX7_keep_44 : decode cX7_keep 44 = .ok (.iload_n 1, 1) := by decide +kernel
theorem dX7_keep_45 : decode cX7_keep 45 = .ok (.laload, 1) := by decide +kernel
theorem dX7_keep_46 : decode cX7_keep 46 = .ok (.lastore, 1) := by decide +kernel
theorem dX7_keep_47 : decode cX7_keep 47 = .ok (.iinc 1 1, 3) := by decide +kernel
theorem dX7_keep_50 : decode cX7_keep 50 = .ok (.goto (-21), 3) := by decide +kernel
theorem dX7_keep_53 : decode cX7_keep 53 = .ok (.return_, 1) := by decide +kernel
theorem dX7_comeBack_0 : decode cX7_comeBack 0 = .ok (.iconst 0, 1) := by decide +kernel
theorem dX7_comeBack_1 : decode cX7_comeBack 1 = .ok (.istore_n 1, 1) := by decide +kernel
theorem dX7_comeBack_2 : decode cX7_comeBack 2 = .ok (.iload_n 1, 1) := by decide +kernel
theorem dX7_comeBack_3 : decode cX7_comeBack 3 = .ok (.sipush 400, 3) := by decide +kernel
theorem dX7_comeBack_6 : decode cX7_comeBack 6 = .ok (.if_icmp .ge 21, 3) := by decide +kernel
theorem dX7_comeBack_9 : decode cX7_comeBack 9 = .ok (.aload_n 0, 1) := by decide +kernel
theorem dX7_comeBack_10 : decode cX7_comeBack 10 = .ok (.getfield 7, 3) := by decide +kernel
theorem dX7_comeBack_13 : decode cX7_comeBack 13 = .ok (.iload_n 1, 1) := by decide +kernel
theorem dX7_comeBack_14 : decode cX7_comeBack 14 = .ok (.aload_n 0, 1) := by decide +kernel
theorem dX7_comeBack_15 : decode cX7_comeBack 15 = .ok (.getfield 17, 3) := by decide +kernel
theorem dX7_comeBack_18 : decode cX7_comeBack 18 = .ok (.iload_n 1, 1) := by decide +kernel
theorem dX7_comeBack_19 : decode cX7_comeBack 19 = .ok (.iaload, 1) := by decide +kernel
theorem dX7_comeBack_20 : decode cX7_comeBack 20 = .ok (.iastore, 1) := by decide +kernel
theorem dX7_comeBack_21 : decode cX7_comeBack 21 = .ok (.iinc 1 1, 3) := by decide +kernel
theorem dX7_comeBack_24 : decode cX7_comeBack 24 = .ok (.goto (-22), 3) := by decide +kernel
theorem dX7_comeBack_27 : decode cX7_comeBack 27 = .ok (.iconst 0, 1) := by decide +kernel
theorem dX7_comeBack_28 : decode cX7_comeBack 28 = .ok (.istore_n 1, 1) := by decide +kernel
theorem dX7_comeBack_29 : decode cX7_comeBack 29 = .ok (.iload_n 1, 1) := by decide +kernel
theorem dX7_comeBack_30 : decode cX7_comeBack 30 = .ok (.bipush 10, 2) := by decide +kernel
theorem dX7_comeBack_32 : decode cX7_comeBack 32 = .ok (.if_icmp .ge 21, 3) := by decide +kernel
theorem dX7_comeBack_35 : decode cX7_comeBack 35 = .ok (.aload_n 0, 1) := by decide +kernel
theorem dX7_comeBack_36 : decode cX7_comeBack 36 = .ok (.getfield 13, 3) := by decide +kernel
theorem dX7_comeBack_39 : decode cX7_comeBack 39 = .ok (.iload_n 1, 1) := by decide +kernel
theorem dX7_comeBack_40 : decode cX7_comeBack 40 = .ok (.aload_n 0, 1) := by decide +kernel
theorem dX7_comeBack_41 : decode cX7_comeBack 41 = .ok (.getfield 20, 3) := by decide +kernel
theorem dX7_comeBack_44 : decode cX7_comeBack 44 = .ok (.iload_n 1, 1) := by decide +kernel
theorem dX7_comeBack_45 : decode cX7_comeBack 45 = .ok (.laload, 1) := by decide +kernel
theorem dX7_comeBack_46 : decode cX7_comeBack 46 = .ok (.lastore, 1) := by decide +kernel
theorem dX7_comeBack_47 : decode cX7_comeBack 47 = .ok (.iinc 1 1, 3) := by decide +kernel
theorem dX7_comeBack_50 : decode cX7_comeBack 50 = .ok (.goto (-21), 3) := by decide +kernel
theorem dX7_comeBack_53 : decode cX7_comeBack 53 = .ok (.return_, 1) := by decide +kernel
theorem dX7_least_0 : decode cX7_least 0 = .ok (.iload_n 0, 1) := by decide +kernel
theorem dX7_least_1 : decode cX7_least 1 = .ok (.iconst 3, 1) := by decide +kernel
theorem dX7_least_2 : decode cX7_least 2 = .ok (.if_icmp .ge 7, 3) := by decide +kernel
theorem dX7_least_5 : decode cX7_least 5 = .ok (.iconst 0, 1) := by decide +kernel
theorem dX7_least_6 : decode cX7_least 6 = .ok (.goto 4, 3) := by decide +kernel
theorem dX7_least_9 : decode cX7_least 9 = .ok (.iconst 1, 1) := by decide +kernel
theorem dX7_least_10 : decode cX7_least 10 = .ok (.ireturn, 1) := by decide +kernel
theorem dX7_most_0 : decode cX7_most 0 = .ok (.iload_n 0, 1) := by decide +kernel
theorem dX7_most_1 : decode cX7_most 1 = .ok (.iconst 3, 1) := by decide +kernel
theorem dX7_most_2 : decode cX7_most 2 = .ok (.if_icmp .ge 9, 3) := by decide +kernel
theorem dX7_most_5 : decode cX7_most 5 = .ok (.sipush 1000, 3) := by decide +kernel
theorem dX7_most_8 : decode cX7_most 8 = .ok (.goto 16, 3) := by decide +kernel
theorem dX7_most_11 : decode cX7_most 11 = .ok (.iload_n 0, 1) := by decide +kernel
theorem dX7_most_12 : decode cX7_most 12 = .ok (.iconst 3, 1) := by decide +kernel
theorem dX7_most_13 : decode cX7_most 13 = .ok (.if_icmp .ne 8, 3) := by decide +kernel
theorem dX7_most_16 : decode cX7_most 16 = .ok (.bipush 100, 2) := by decide +kernel
theorem dX7_most_18 : decode cX7_most 18 = .ok (.goto 6, 3) := by decide +kernel
theorem dX7_most_21 : decode cX7_most 21 = .ok (.sipush 10000, 3) := by decide +kernel
theorem dX7_most_24 : decode cX7_most 24 = .ok (.ireturn, 1) := by decide +kernel
theorem dX7_set_0 : decode cX7_set 0 = .ok (.iload_n 1, 1) := by decide +kernel
theorem dX7_set_1 : decode cX7_set 1 = .ok (.iconst 0, 1) := by decide +kernel
theorem dX7_set_2 : decode cX7_set 2 = .ok (.iconst 4, 1) := by decide +kernel
theorem dX7_set_3 : decode cX7_set 3 = .ok (.invokestatic 62, 3) := by decide +kernel
theorem dX7_set_6 : decode cX7_set 6 = .ok (.ifCond .eq 18, 3) := by decide +kernel
theorem dX7_set_9 : decode cX7_set 9 = .ok (.iload_n 2, 1) := by decide +kernel
theorem dX7_set_10 : decode cX7_set 10 = .ok (.iload_n 1, 1) := by decide +kernel
theorem dX7_set_11 : decode cX7_set 11 = .ok (.invokestatic 66, 3) := by decide +kernel
theorem dX7_set_14 : decode cX7_set 14 = .ok (.iload_n 1, 1) := by decide +kernel
theorem dX7_set_15 : decode cX7_set 15 = .ok (.invokestatic 70, 3) := by decide +kernel
theorem dX7_set_18 : decode cX7_set 18 = .ok (.invokestatic 62, 3) := by decide +kernel
theorem dX7_set_21 : decode cX7_set 21 = .ok (.ifCond .ne 6, 3) := by decide +kernel
theorem dX7_set_24 : decode cX7_set 24 = .ok (.bipush (-2), 2) := by decide +kernel
theorem dX7_set_26 : decode cX7_set 26 = .ok (.ireturn, 1) := by decide +kernel
theorem dX7_set_27 : decode cX7_set 27 = .ok (.aload_n 0, 1) := by decide +kernel
theorem dX7_set_28 : decode cX7_set 28 = .ok (.invokevirtual 73, 3) := by decide +kernel
theorem dX7_set_31 : decode cX7_set 31 = .ok (.aload_n 0, 1) := by decide +kernel
theorem dX7_set_32 : decode cX7_set 32 = .ok (.getfield 7, 3) := by decide +kernel
theorem dX7_set_35 : decode cX7_set 35 = .ok (.iload_n 1, 1) := by decide +kernel
theorem dX7_set_36 : decode cX7_set 36 = .ok (.iaload, 1) := by decide +kernel
theorem dX7_set_37 : decode cX7_set 37 = .ok (.istore_n 3, 1) := by decide +kernel
theorem dX7_set_38 : decode cX7_set 38 = .ok (.aload_n 0, 1) := by decide +kernel
theorem dX7_set_39 : decode cX7_set 39 = .ok (.getfield 7, 3) := by decide +kernel
theorem dX7_set_42 : decode cX7_set 42 = .ok (.iload_n 1, 1) := by decide +kernel
theorem dX7_set_43 : decode cX7_set 43 = .ok (.iload_n 2, 1) := by decide +kernel
theorem dX7_set_44 : decode cX7_set 44 = .ok (.iastore, 1) := by decide +kernel
theorem dX7_set_45 : decode cX7_set 45 = .ok (.iload_n 3, 1) := by decide +kernel
theorem dX7_set_46 : decode cX7_set 46 = .ok (.ireturn, 1) := by decide +kernel
theorem dX7_owner_0 : decode cX7_owner 0 = .ok (.iload_n 1, 1) := by decide +kernel
theorem dX7_owner_1 : decode cX7_owner 1 = .ok (.iconst 0, 1) := by decide +kernel
theorem dX7_owner_2 : decode cX7_owner 2 = .ok (.ldc 76, 2) := by decide +kernel
theorem dX7_owner_4 : decode cX7_owner 4 = .ok (.invokestatic 62, 3) := by decide +kernel
theorem dX7_owner_7 : decode cX7_owner 7 = .ok (.ifCond .ne 6, 3) := by decide +kernel
theorem dX7_owner_10 : decode cX7_owner 10 = .ok (.bipush (-2), 2) := by decide +kernel
theorem dX7_owner_12 : decode cX7_owner 12 = .ok (.ireturn, 1) := by decide +kernel
theorem dX7_owner_13 : decode cX7_owner 13 = .ok (.aload_n 0, 1) := by decide +kernel
theorem dX7_owner_14 : decode cX7_owner 14 = .ok (.getfield 7, 3) := by decide +kernel
theorem dX7_owner_17 : decode cX7_owner 17 = .ok (.bipush 6, 2) := by decide +kernel
theorem dX7_owner_19 : decode cX7_owner 19 = .ok (.iaload, 1) := by decide +kernel
theorem dX7_owner_20 : decode cX7_owner 20 = .ok (.bipush 10, 2) := by decide +kernel
theorem dX7_owner_22 : decode cX7_owner 22 = .ok (.if_icmp .ne 6, 3) := by decide +kernel
theorem dX7_owner_25 : decode cX7_owner 25 = .ok (.bipush (-4), 2) := by decide +kernel
theorem dX7_owner_27 : decode cX7_owner 27 = .ok (.ireturn, 1) := by decide +kernel
theorem dX7_owner_28 : decode cX7_owner 28 = .ok (.aload_n 0, 1) := by decide +kernel
theorem dX7_owner_29 : decode cX7_owner 29 = .ok (.invokevirtual 73, 3) := by decide +kernel
theorem dX7_owner_32 : decode cX7_owner 32 = .ok (.aload_n 0, 1) := by decide +kernel
theorem dX7_owner_33 : decode cX7_owner 33 = .ok (.getfield 13, 3) := by decide +kernel
theorem dX7_owner_36 : decode cX7_owner 36 = .ok (.aload_n 0, 1) := by decide +kernel
theorem dX7_owner_37 : decode cX7_owner 37 = .ok (.getfield 7, 3) := by decide +kernel
theorem dX7_owner_40 : decode cX7_owner 40 = .ok (.bipush 6, 2) := by decide +kernel
theorem dX7_owner_42 : decode cX7_owner 42 = .ok (.iaload, 1) := by decide +kernel
theorem dX7_owner_43 : decode cX7_owner 43 = .ok (.iload_n 1, 1) := by decide +kernel
theorem dX7_owner_44 : decode cX7_owner 44 = .ok (.i2l, 1) := by decide +kernel
theorem dX7_owner_45 : decode cX7_owner 45 = .ok (.lastore, 1) := by decide +kernel
theorem dX7_owner_46 : decode cX7_owner 46 = .ok (.aload_n 0, 1) := by decide +kernel
theorem dX7_owner_47 : decode cX7_owner 47 = .ok (.getfield 7, 3) := by decide +kernel
theorem dX7_owner_50 : decode cX7_owner 50 = .ok (.bipush 6, 2) := by decide +kernel
theorem dX7_owner_52 : decode cX7_owner 52 = .ok (.dup2, 1) := by decide +kernel
theorem dX7_owner_53 : decode cX7_owner 53 = .ok (.iaload, 1) := by decide +kernel
theorem dX7_owner_54 : decode cX7_owner 54 = .ok (.iconst 1, 1) := by decide +kernel
theorem dX7_owner_55 : decode cX7_owner 55 = .ok (.iadd, 1) := by decide +kernel
theorem dX7_owner_56 : decode cX7_owner 56 = .ok (.iastore, 1) := by decide +kernel
theorem dX7_owner_57 : decode cX7_owner 57 = .ok (.aload_n 0, 1) := by decide +kernel
theorem dX7_owner_58 : decode cX7_owner 58 = .ok (.getfield 7, 3) := by decide +kernel
theorem dX7_owner_61 : decode cX7_owner 61 = .ok (.bipush 6, 2) := by decide +kernel
theorem dX7_owner_63 : decode cX7_owner 63 = .ok (.iaload, 1) := by decide +kernel
theorem dX7_owner_64 : decode cX7_owner 64 = .ok (.iconst 1, 1) := by decide +kernel
theorem dX7_owner_65 : decode cX7_owner 65 = .ok (.isub, 1) := by decide +kernel
theorem dX7_owner_66 : decode cX7_owner 66 = .ok (.ireturn, 1) := by decide +kernel
theorem dX7_isOwner_0 : decode cX7_isOwner 0 = .ok (.iload_n 1, 1) := by decide +kernel
theorem dX7_isOwner_1 : decode cX7_isOwner 1 = .ok (.iconst 0, 1) := by decide +kernel
theorem dX7_isOwner_2 : decode cX7_isOwner 2 = .ok (.aload_n 0, 1) := by decide +kernel
theorem dX7_isOwner_3 : decode cX7_isOwner 3 = .ok (.getfield 7, 3) := by decide +kernel
theorem dX7_isOwner_6 : decode cX7_isOwner 6 = .ok (.bipush 6, 2) := by decide +kernel
theorem dX7_isOwner_8 : decode cX7_isOwner 8 = .ok (.iaload, 1) := by decide +kernel
theorem dX7_isOwner_9 : decode cX7_isOwner 9 = .ok (.iconst 1, 1) := by decide +kernel
theorem dX7_isOwner_10 : decode cX7_isOwner 10 = .ok (.isub, 1) := by decide +kernel
theorem dX7_isOwner_11 : decode cX7_isOwner 11 = .ok (.invokestatic 62, 3) := by decide +kernel
theorem dX7_isOwner_14 : decode cX7_isOwner 14 = .ok (.ireturn, 1) := by decide +kernel
theorem dX7_pay_0 : decode cX7_pay 0 = .ok (.aload_n 0, 1) := by decide +kernel
theorem dX7_pay_1 : decode cX7_pay 1 = .ok (.iload_n 1, 1) := by decide +kernel
theorem dX7_pay_2 : decode cX7_pay 2 = .ok (.invokevirtual 77, 3) := by decide +kernel
theorem dX7_pay_5 : decode cX7_pay 5 = .ok (.ifCond .ne 5, 3) := by decide +kernel
theorem dX7_pay_8 : decode cX7_pay 8 = .ok (.iconst (-1), 1) := by decide +kernel
theorem dX7_pay_9 : decode cX7_pay 9 = .ok (.ireturn, 1) := by decide +kernel
theorem dX7_pay_10 : decode cX7_pay 10 = .ok (.iload_n 2, 1) := by decide +kernel
theorem dX7_pay_11 : decode cX7_pay 11 = .ok (.iconst 0, 1) := by decide +kernel
theorem dX7_pay_12 : decode cX7_pay 12 = .ok (.ldc 76, 2) := by decide +kernel
theorem dX7_pay_14 : decode cX7_pay 14 = .ok (.invokestatic 62, 3) := by decide +kernel
theorem dX7_pay_17 : decode cX7_pay 17 = .ok (.ifCond .ne 6, 3) := by decide +kernel
theorem dX7_pay_20 : decode cX7_pay 20 = .ok (.bipush (-2), 2) := by decide +kernel
theorem dX7_pay_22 : decode cX7_pay 22 = .ok (.ireturn, 1) := by decide +kernel
theorem dX7_pay_23 : decode cX7_pay 23 = .ok (.aload_n 0, 1) := by decide +kernel
theorem dX7_pay_24 : decode cX7_pay 24 = .ok (.invokevirtual 73, 3) := by decide +kernel
theorem dX7_pay_27 : decode cX7_pay 27 = .ok (.aload_n 0, 1) := by decide +kernel
theorem dX7_pay_28 : decode cX7_pay 28 = .ok (.getfield 13, 3) := by decide +kernel
theorem dX7_pay_31 : decode cX7_pay 31 = .ok (.iload_n 1, 1) := by decide +kernel
theorem dX7_pay_32 : decode cX7_pay 32 = .ok (.dup2, 1) := by decide +kernel
theorem dX7_pay_33 : decode cX7_pay 33 = .ok (.laload, 1) := by decide +kernel
theorem dX7_pay_34 : decode cX7_pay 34 = .ok (.iload_n 2, 1) := by decide +kernel
theorem dX7_pay_35 : decode cX7_pay 35 = .ok (.i2l, 1) := by decide +kernel
theorem dX7_pay_36 : decode cX7_pay 36 = .ok (.ladd, 1) := by decide +kernel
theorem dX7_pay_37 : decode cX7_pay 37 = .ok (.lastore, 1) := by decide +kernel
theorem dX7_pay_38 : decode cX7_pay 38 = .ok (.aload_n 0, 1) := by decide +kernel
theorem dX7_pay_39 : decode cX7_pay 39 = .ok (.getfield 13, 3) := by decide +kernel
theorem dX7_pay_42 : decode cX7_pay 42 = .ok (.iload_n 1, 1) := by decide +kernel
theorem dX7_pay_43 : decode cX7_pay 43 = .ok (.laload, 1) := by decide +kernel
theorem dX7_pay_44 : decode cX7_pay 44 = .ok (.lconst 0, 1) := by decide +kernel
theorem dX7_pay_45 : decode cX7_pay 45 = .ok (.lcmp, 1) := by decide +kernel
theorem dX7_pay_46 : decode cX7_pay 46 = .ok (.ifCond .lt 7, 3) := by decide +kernel
theorem dX7_pay_49 : decode cX7_pay 49 = .ok (.iconst 1, 1) := by decide +kernel
theorem dX7_pay_50 : decode cX7_pay 50 = .ok (.goto 4, 3) := by decide +kernel
theorem dX7_pay_53 : decode cX7_pay 53 = .ok (.iconst 0, 1) := by decide +kernel
theorem dX7_pay_54 : decode cX7_pay 54 = .ok (.ireturn, 1) := by decide +kernel
theorem dX7_first_0 : decode cX7_first 0 = .ok (.aload_n 0, 1) := by decide +kernel
theorem dX7_first_1 : decode cX7_first 1 = .ok (.getfield 7, 3) := by decide +kernel
theorem dX7_first_4 : decode cX7_first 4 = .ok (.bipush 100, 2) := by decide +kernel
theorem dX7_first_6 : decode cX7_first 6 = .ok (.iconst 2, 1) := by decide +kernel
theorem dX7_first_7 : decode cX7_first 7 = .ok (.iload_n 1, 1) := by decide +kernel
theorem dX7_first_8 : decode cX7_first 8 = .ok (.imul, 1) := by decide +kernel
theorem dX7_first_9 : decode cX7_first 9 = .ok (.iadd, 1) := by decide +kernel
theorem dX7_first_10 : decode cX7_first 10 = .ok (.iaload, 1) := by decide +kernel
theorem dX7_first_11 : decode cX7_first 11 = .ok (.ireturn, 1) := by decide +kernel
theorem dX7_ownerOf_0 : decode cX7_ownerOf 0 = .ok (.aload_n 0, 1) := by decide +kernel
theorem dX7_ownerOf_1 : decode cX7_ownerOf 1 = .ok (.getfield 7, 3) := by decide +kernel
theorem dX7_ownerOf_4 : decode cX7_ownerOf 4 = .ok (.bipush 100, 2) := by decide +kernel
theorem dX7_ownerOf_6 : decode cX7_ownerOf 6 = .ok (.iconst 2, 1) := by decide +kernel
theorem dX7_ownerOf_7 : decode cX7_ownerOf 7 = .ok (.iload_n 1, 1) := by decide +kernel
theorem dX7_ownerOf_8 : decode cX7_ownerOf 8 = .ok (.imul, 1) := by decide +kernel
theorem dX7_ownerOf_9 : decode cX7_ownerOf 9 = .ok (.iadd, 1) := by decide +kernel
