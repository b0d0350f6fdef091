theorem dX7_ofOwner_11 : decode cX7_ofOwner 11 = .ok (.tableswitch 77 0 5 #[37, 43, 49, 55, 61, 61], 37) := by decide +kernel
theorem dX7_ofOwner_48 : decode cX7_ofOwner 48 = .ok (.aload_n 0, 1) := by decide +kernel
theorem dX7_ofOwner_49 : decode cX7_ofOwner 49 = .ok (.iload_n 1, 1) := by decide +kernel
theorem dX7_ofOwner_50 : decode cX7_ofOwner 50 = .ok (.invokevirtual 153, 3) := by decide +kernel
theorem dX7_ofOwner_53 : decode cX7_ofOwner 53 = .ok (.ireturn, 1) := by decide +kernel
theorem dX7_ofOwner_54 : decode cX7_ofOwner 54 = .ok (.aload_n 0, 1) := by decide +kernel
theorem dX7_ofOwner_55 : decode cX7_ofOwner 55 = .ok (.iload_n 1, 1) := by decide +kernel
theorem dX7_ofOwner_56 : decode cX7_ofOwner 56 = .ok (.invokevirtual 101, 3) := by decide +kernel
theorem dX7_ofOwner_59 : decode cX7_ofOwner 59 = .ok (.ireturn, 1) := by decide +kernel
theorem dX7_ofOwner_60 : decode cX7_ofOwner 60 = .ok (.aload_n 0, 1) := by decide +kernel
theorem dX7_ofOwner_61 : decode cX7_ofOwner 61 = .ok (.iload_n 1, 1) := by decide +kernel
theorem dX7_ofOwner_62 : decode cX7_ofOwner 62 = .ok (.invokevirtual 171, 3) := by decide +kernel
theorem dX7_ofOwner_65 : decode cX7_ofOwner 65 = .ok (.ireturn, 1) := by decide +kernel
theorem dX7_ofOwner_66 : decode cX7_ofOwner 66 = .ok (.aload_n 0, 1) := by decide +kernel
theorem dX7_ofOwner_67 : decode cX7_ofOwner 67 = .ok (.iload_n 1, 1) := by decide +kernel
theorem dX7_ofOwner_68 : decode cX7_ofOwner 68 = .ok (.invokevirtual 159, 3) := by decide +kernel
theorem dX7_ofOwner_71 : decode cX7_ofOwner 71 = .ok (.ireturn, 1) := by decide +kernel
theorem dX7_ofOwner_72 : decode cX7_ofOwner 72 = .ok (.aload_n 0, 1) := by decide +kernel
theorem dX7_ofOwner_73 : decode cX7_ofOwner 73 = .ok (.getfield 7, 3) := by decide +kernel
theorem dX7_ofOwner_76 : decode cX7_ofOwner 76 = .ok (.bipush 20, 2) := by decide +kernel
theorem dX7_ofOwner_78 : decode cX7_ofOwner 78 = .ok (.iconst 2, 1) := by decide +kernel
theorem dX7_ofOwner_79 : decode cX7_ofOwner 79 = .ok (.iload_n 1, 1) := by decide +kernel
theorem dX7_ofOwner_80 : decode cX7_ofOwner 80 = .ok (.imul, 1) := by decide +kernel
theorem dX7_ofOwner_81 : decode cX7_ofOwner 81 = .ok (.iadd, 1) := by decide +kernel
theorem dX7_ofOwner_82 : decode cX7_ofOwner 82 = .ok (.iload_n 2, 1) := by decide +kernel
theorem dX7_ofOwner_83 : decode cX7_ofOwner 83 = .ok (.iadd, 1) := by decide +kernel
theorem dX7_ofOwner_84 : decode cX7_ofOwner 84 = .ok (.iconst 4, 1) := by decide +kernel
theorem dX7_ofOwner_85 : decode cX7_ofOwner 85 = .ok (.isub, 1) := by decide +kernel
theorem dX7_ofOwner_86 : decode cX7_ofOwner 86 = .ok (.iaload, 1) := by decide +kernel
theorem dX7_ofOwner_87 : decode cX7_ofOwner 87 = .ok (.ireturn, 1) := by decide +kernel
theorem dX7_ofOwner_88 : decode cX7_ofOwner 88 = .ok (.bipush (-2), 2) := by decide +kernel
theorem dX7_ofOwner_90 : decode cX7_ofOwner 90 = .ok (.ireturn, 1) := by decide +kernel
theorem dX7_money_0 : decode cX7_money 0 = .ok (.aload_n 0, 1) := by decide +kernel
theorem dX7_money_1 : decode cX7_money 1 = .ok (.iload_n 1, 1) := by decide +kernel
theorem dX7_money_2 : decode cX7_money 2 = .ok (.invokevirtual 77, 3) := by decide +kernel
theorem dX7_money_5 : decode cX7_money 5 = .ok (.ifCond .eq 12, 3) := by decide +kernel
theorem dX7_money_8 : decode cX7_money 8 = .ok (.aload_n 0, 1) := by decide +kernel
theorem dX7_money_9 : decode cX7_money 9 = .ok (.getfield 13, 3) := by decide +kernel
theorem dX7_money_12 : decode cX7_money 12 = .ok (.iload_n 1, 1) := by decide +kernel
theorem dX7_money_13 : decode cX7_money 13 = .ok (.laload, 1) := by decide +kernel
theorem dX7_money_14 : decode cX7_money 14 = .ok (.goto 6, 3) := by decide +kernel
theorem dX7_money_17 : decode cX7_money 17 = .ok (.ldc2_w 174, 3) := by decide +kernel
theorem dX7_money_20 : decode cX7_money 20 = .ok (.lreturn, 1) := by decide +kernel
theorem dX7_ownerOn_0 : decode cX7_ownerOn 0 = .ok (.bipush (-6), 2) := by decide +kernel
theorem dX7_ownerOn_2 : decode cX7_ownerOn 2 = .ok (.istore_n 2, 1) := by decide +kernel
theorem dX7_ownerOn_3 : decode cX7_ownerOn 3 = .ok (.iconst 0, 1) := by decide +kernel
theorem dX7_ownerOn_4 : decode cX7_ownerOn 4 = .ok (.istore_n 3, 1) := by decide +kernel
theorem dX7_ownerOn_5 : decode cX7_ownerOn 5 = .ok (.iload_n 3, 1) := by decide +kernel
theorem dX7_ownerOn_6 : decode cX7_ownerOn 6 = .ok (.aload_n 0, 1) := by decide +kernel
theorem dX7_ownerOn_7 : decode cX7_ownerOn 7 = .ok (.getfield 7, 3) := by decide +kernel
theorem dX7_ownerOn_10 : decode cX7_ownerOn 10 = .ok (.bipush 7, 2) := by decide +kernel
theorem dX7_ownerOn_12 : decode cX7_ownerOn 12 = .ok (.iaload, 1) := by decide +kernel
theorem dX7_ownerOn_13 : decode cX7_ownerOn 13 = .ok (.if_icmp .ge 28, 3) := by decide +kernel
theorem dX7_ownerOn_16 : decode cX7_ownerOn 16 = .ok (.aload_n 0, 1) := by decide +kernel
theorem dX7_ownerOn_17 : decode cX7_ownerOn 17 = .ok (.iload_n 3, 1) := by decide +kernel
theorem dX7_ownerOn_18 : decode cX7_ownerOn 18 = .ok (.invokevirtual 81, 3) := by decide +kernel
theorem dX7_ownerOn_21 : decode cX7_ownerOn 21 = .ok (.iload_n 1, 1) := by decide +kernel
theorem dX7_ownerOn_22 : decode cX7_ownerOn 22 = .ok (.if_icmp .gt 11, 3) := by decide +kernel
theorem dX7_ownerOn_25 : decode cX7_ownerOn 25 = .ok (.aload_n 0, 1) := by decide +kernel
theorem dX7_ownerOn_26 : decode cX7_ownerOn 26 = .ok (.iload_n 3, 1) := by decide +kernel
theorem dX7_ownerOn_27 : decode cX7_ownerOn 27 = .ok (.invokevirtual 87, 3) := by decide +kernel
theorem dX7_ownerOn_30 : decode cX7_ownerOn 30 = .ok (.goto 4, 3) := by decide +kernel
theorem dX7_ownerOn_33 : decode cX7_ownerOn 33 = .ok (.iload_n 2, 1) := by decide +kernel
theorem dX7_ownerOn_34 : decode cX7_ownerOn 34 = .ok (.istore_n 2, 1) := by decide +kernel
theorem dX7_ownerOn_35 : decode cX7_ownerOn 35 = .ok (.iinc 3 1, 3) := by decide +kernel
theorem dX7_ownerOn_38 : decode cX7_ownerOn 38 = .ok (.goto (-33), 3) := by decide +kernel
theorem dX7_ownerOn_41 : decode cX7_ownerOn 41 = .ok (.iload_n 2, 1) := by decide +kernel
theorem dX7_ownerOn_42 : decode cX7_ownerOn 42 = .ok (.ireturn, 1) := by decide +kernel
theorem dX7_ownerAt_0 : decode cX7_ownerAt 0 = .ok (.iload_n 1, 1) := by decide +kernel
theorem dX7_ownerAt_1 : decode cX7_ownerAt 1 = .ok (.iconst 0, 1) := by decide +kernel
theorem dX7_ownerAt_2 : decode cX7_ownerAt 2 = .ok (.sipush 9999, 3) := by decide +kernel
theorem dX7_ownerAt_5 : decode cX7_ownerAt 5 = .ok (.invokestatic 62, 3) := by decide +kernel
theorem dX7_ownerAt_8 : decode cX7_ownerAt 8 = .ok (.ifCond .eq 11, 3) := by decide +kernel
theorem dX7_ownerAt_11 : decode cX7_ownerAt 11 = .ok (.aload_n 0, 1) := by decide +kernel
theorem dX7_ownerAt_12 : decode cX7_ownerAt 12 = .ok (.iload_n 1, 1) := by decide +kernel
theorem dX7_ownerAt_13 : decode cX7_ownerAt 13 = .ok (.invokevirtual 176, 3) := by decide +kernel
theorem dX7_ownerAt_16 : decode cX7_ownerAt 16 = .ok (.goto 5, 3) := by decide +kernel
theorem dX7_ownerAt_19 : decode cX7_ownerAt 19 = .ok (.bipush (-2), 2) := by decide +kernel
theorem dX7_ownerAt_21 : decode cX7_ownerAt 21 = .ok (.ireturn, 1) := by decide +kernel
theorem dX7_ofTransfer_0 : decode cX7_ofTransfer 0 = .ok (.iload_n 1, 1) := by decide +kernel
theorem dX7_ofTransfer_1 : decode cX7_ofTransfer 1 = .ok (.iconst 0, 1) := by decide +kernel
theorem dX7_ofTransfer_2 : decode cX7_ofTransfer 2 = .ok (.aload_n 0, 1) := by decide +kernel
theorem dX7_ofTransfer_3 : decode cX7_ofTransfer 3 = .ok (.getfield 7, 3) := by decide +kernel
theorem dX7_ofTransfer_6 : decode cX7_ofTransfer 6 = .ok (.bipush 8, 2) := by decide +kernel
theorem dX7_ofTransfer_8 : decode cX7_ofTransfer 8 = .ok (.iaload, 1) := by decide +kernel
theorem dX7_ofTransfer_9 : decode cX7_ofTransfer 9 = .ok (.iconst 1, 1) := by decide +kernel
theorem dX7_ofTransfer_10 : decode cX7_ofTransfer 10 = .ok (.isub, 1) := by decide +kernel
theorem dX7_ofTransfer_11 : decode cX7_ofTransfer 11 = .ok (.invokestatic 62, 3) := by decide +kernel
theorem dX7_ofTransfer_14 : decode cX7_ofTransfer 14 = .ok (.ifCond .ne 5, 3) := by decide +kernel
theorem dX7_ofTransfer_17 : decode cX7_ofTransfer 17 = .ok (.iconst (-1), 1) := by decide +kernel
theorem dX7_ofTransfer_18 : decode cX7_ofTransfer 18 = .ok (.ireturn, 1) := by decide +kernel
theorem dX7_ofTransfer_19 : decode cX7_ofTransfer 19 = .ok (.iload_n 2, 1) := by decide +kernel
theorem dX7_ofTransfer_20 : decode cX7_ofTransfer 20 = .ok (.iconst 0, 1) := by decide +kernel
theorem dX7_ofTransfer_21 : decode cX7_ofTransfer 21 = .ok (.iconst 4, 1) := by decide +kernel
theorem dX7_ofTransfer_22 : decode cX7_ofTransfer 22 = .ok (.invokestatic 62, 3) := by decide +kernel
theorem dX7_ofTransfer_25 : decode cX7_ofTransfer 25 = .ok (.ifCond .eq 19, 3) := by decide +kernel
theorem dX7_ofTransfer_28 : decode cX7_ofTransfer 28 = .ok (.aload_n 0, 1) := by decide +kernel
theorem dX7_ofTransfer_29 : decode cX7_ofTransfer 29 = .ok (.getfield 7, 3) := by decide +kernel
theorem dX7_ofTransfer_32 : decode cX7_ofTransfer 32 = .ok (.bipush 50, 2) := by decide +kernel
theorem dX7_ofTransfer_34 : decode cX7_ofTransfer 34 = .ok (.iconst 5, 1) := by decide +kernel
theorem dX7_ofTransfer_35 : decode cX7_ofTransfer 35 = .ok (.iload_n 1, 1) := by decide +kernel
theorem dX7_ofTransfer_36 : decode cX7_ofTransfer 36 = .ok (.imul, 1) := by decide +kernel
theorem dX7_ofTransfer_37 : decode cX7_ofTransfer 37 = .ok (.iadd, 1) := by decide +kernel
theorem dX7_ofTransfer_38 : decode cX7_ofTransfer 38 = .ok (.iload_n 2, 1) := by decide +kernel
theorem dX7_ofTransfer_39 : decode cX7_ofTransfer 39 = .ok (.iadd, 1) := by decide +kernel
theorem dX7_ofTransfer_40 : decode cX7_ofTransfer 40 = .ok (.iaload, 1) := by decide +kernel
theorem dX7_ofTransfer_41 : decode cX7_ofTransfer 41 = .ok (.goto 5, 3) := by decide +kernel
theorem dX7_ofTransfer_44 : decode cX7_ofTransfer 44 = .ok (.bipush (-2), 2) := by decide +kernel
theorem dX7_ofTransfer_46 : decode cX7_ofTransfer 46 = .ok (.ireturn, 1) := by decide +kernel
theorem dX7_taxes_0 : decode cX7_taxes 0 = .ok (.iconst 0, 1) := by decide +kernel
theorem dX7_taxes_1 : decode cX7_taxes 1 = .ok (.istore_n 1, 1) := by decide +kernel
theorem dX7_taxes_2 : decode cX7_taxes 2 = .ok (.iconst 0, 1) := by decide +kernel
theorem dX7_taxes_3 : decode cX7_taxes 3 = .ok (.istore_n 2, 1) := by decide +kernel
theorem dX7_taxes_4 : decode cX7_taxes 4 = .ok (.iload_n 2, 1) := by decide +kernel
theorem dX7_taxes_5 : decode cX7_taxes 5 = .ok (.aload_n 0, 1) := by decide +kernel
theorem dX7_taxes_6 : decode cX7_taxes 6 = .ok (.getfield 7, 3) := by decide +kernel
theorem dX7_taxes_9 : decode cX7_taxes 9 = .ok (.bipush 6, 2) := by decide +kernel
theorem dX7_taxes_11 : decode cX7_taxes 11 = .ok (.iaload, 1) := by decide +kernel
theorem dX7_taxes_12 : decode cX7_taxes 12 = .ok (.if_icmp .ge 23, 3) := by decide +kernel
theorem dX7_taxes_15 : decode cX7_taxes 15 = .ok (.iload_n 1, 1) := by decide +kernel
theorem dX7_taxes_16 : decode cX7_taxes 16 = .ok (.aload_n 0, 1) := by decide +kernel
theorem dX7_taxes_17 : decode cX7_taxes 17 = .ok (.getfield 7, 3) := by decide +kernel
theorem dX7_taxes_20 : decode cX7_taxes 20 = .ok (.bipush 20, 2) := by decide +kernel
theorem dX7_taxes_22 : decode cX7_taxes 22 = .ok (.iconst 2, 1) := by decide +kernel
theorem dX7_taxes_23 : decode cX7_taxes 23 = .ok (.iload_n 2, 1) := by decide +kernel
theorem dX7_taxes_24 : decode cX7_taxes 24 = .ok (.imul, 1) := by decide +kernel
theorem dX7_taxes_25 : decode cX7_taxes 25 = .ok (.iadd, 1) := by decide +kernel
theorem dX7_taxes_26 : decode cX7_taxes 26 = .ok (.iaload, 1) := by decide +kernel
theorem dX7_taxes_27 : decode cX7_taxes 27 = .ok (.iadd, 1) := by decide +kernel
theorem dX7_taxes_28 : decode cX7_taxes 28 = .ok (.istore_n 1, 1) := by decide +kernel
theorem dX7_taxes_29 : decode cX7_taxes 29 = .ok (.iinc 2 1, 3) := by decide +kernel
theorem dX7_taxes_32 : decode cX7_taxes 32 = .ok (.goto (-28), 3) := by decide +kernel
theorem dX7_taxes_35 : decode cX7_taxes 35 = .ok (.iload_n 1, 1) := by decide +kernel
theorem dX7_taxes_36 : decode cX7_taxes 36 = .ok (.ireturn, 1) := by decide +kernel
theorem dX7_count_0 : decode cX7_count 0 = .ok (.iload_n 1, 1) := by decide +kernel
theorem dX7_count_1 : decode cX7_count 1 = .ok (.bipush 12, 2) := by decide +kernel
theorem dX7_count_3 : decode cX7_count 3 = .ok (.bipush 16, 2) := by decide +kernel
theorem dX7_count_5 : decode cX7_count 5 = .ok (.invokestatic 62, 3) := by decide +kernel
theorem dX7_count_8 : decode cX7_count 8 = .ok (.ifCond .eq 13, 3) := by decide +kernel
theorem dX7_count_11 : decode cX7_count 11 = .ok (.aload_n 0, 1) := by decide +kernel
theorem dX7_count_12 : decode cX7_count 12 = .ok (.getfield 7, 3) := by decide +kernel
theorem dX7_count_15 : decode cX7_count 15 = .ok (.iload_n 1, 1) := by decide +kernel
theorem dX7_count_16 : decode cX7_count 16 = .ok (.bipush 12, 2) := by decide +kernel
theorem dX7_count_18 : decode cX7_count 18 = .ok (.isub, 1) := by decide +kernel
theorem dX7_count_19 : decode cX7_count 19 = .ok (.iaload, 1) := by decide +kernel
theorem dX7_count_20 : decode cX7_count 20 = .ok (.ireturn, 1) := by decide +kernel
theorem dX7_count_21 : decode cX7_count 21 = .ok (.iload_n 1, 1) := by decide +kernel
theorem dX7_count_22 : decode cX7_count 22 = .ok (.tableswitch 137 0 10 #[58, 65, 73, 78, 89, 96, 103, 111, 119, 127, 132], 58) := by decide +kernel
theorem dX7_count_80 : decode cX7_count 80 = .ok (.aload_n 0, 1) := by decide +kernel
theorem dX7_count_81 : decode cX7_count 81 = .ok (.getfield 7, 3) := by decide +kernel
theorem dX7_count_84 : decode cX7_count 84 = .ok (.iconst 5, 1) := by decide +kernel
theorem dX7_count_85 : decode cX7_count 85 = .ok (.iaload, 1) := by decide +kernel
theorem dX7_count_86 : decode cX7_count 86 = .ok (.ireturn, 1) := by decide +kernel
theorem dX7_count_87 : decode cX7_count 87 = .ok (.aload_n 0, 1) := by decide +kernel
theorem dX7_count_88 : decode cX7_count 88 = .ok (.getfield 7, 3) := by decide +kernel
theorem dX7_count_91 : decode cX7_count 91 = .ok (.bipush 6, 2) := by decide +kernel
theorem dX7_count_93 : decode cX7_count 93 = .ok (.iaload, 1) := by decide +kernel
theorem dX7_count_94 : decode cX7_count 94 = .ok (.ireturn, 1) := by decide +kernel
theorem dX7_count_95 : decode cX7_count 95 = .ok (.aload_n 0, 1) := by decide +kernel
theorem dX7_count_96 : decode cX7_count 96 = .ok (.invokevirtual 121, 3) := by decide +kernel
theorem dX7_count_99 : decode cX7_count 99 = .ok (.ireturn, 1) := by decide +kernel
theorem dX7_count_100 : decode cX7_count 100 = .ok (.sipush 10000, 3) := by decide +kernel
theorem dX7_count_103 : decode cX7_count 103 = .ok (.aload_n 0, 1) := by decide +kernel
theorem dX7_count_104 : decode cX7_count 104 = .ok (.bipush (-6), 2) := by decide +kernel
theorem dX7_count_106 : decode cX7_count 106 = .ok (.invokevirtual 101, 3) := by decide +kernel
theorem dX7_count_109 : decode cX7_count 109 = .ok (.isub, 1) := by decide +kernel
theorem dX7_count_110 : decode cX7_count 110 = .ok (.ireturn, 1) := by decide +kernel
theorem dX7_count_111 : decode cX7_count 111 = .ok (.aload_n 0, 1) := by decide +kernel
theorem dX7_count_112 : decode cX7_count 112 = .ok (.bipush (-6), 2) := by decide +kernel
theorem dX7_count_114 : decode cX7_count 114 = .ok (.invokevirtual 153, 3) := by decide +kernel
theorem dX7_count_117 : decode cX7_count 117 = .ok (.ireturn, 1) := by decide +kernel
theorem dX7_count_118 : decode cX7_count 118 = .ok (.aload_n 0, 1) := by decide +kernel
theorem dX7_count_119 : decode cX7_count 119 = .ok (.bipush (-6), 2) := by decide +kernel
theorem dX7_count_121 : decode cX7_count 121 = .ok (.invokevirtual 171, 3) := by decide +kernel
theorem dX7_count_124 : decode cX7_count 124 = .ok (.ireturn, 1) := by decide +kernel
theorem dX7_count_125 : decode cX7_count 125 = .ok (.aload_n 0, 1) := by decide +kernel
theorem dX7_count_126 : decode cX7_count 126 = .ok (.getfield 7, 3) := by decide +kernel
theorem dX7_count_129 : decode cX7_count 129 = .ok (.bipush 8, 2) := by decide +kernel
theorem dX7_count_131 : decode cX7_count 131 = .ok (.iaload, 1) := by decide +kernel
theorem dX7_count_132 : decode cX7_count 132 = .ok (.ireturn, 1) := by decide +kernel
theorem dX7_count_133 : decode cX7_count 133 = .ok (.aload_n 0, 1) := by decide +kernel
theorem dX7_count_134 : decode cX7_count 134 = .ok (.getfield 7, 3) := by decide +kernel
theorem dX7_count_137 : decode cX7_count 137 = .ok (.bipush 9, 2) := by decide +kernel
theorem dX7_count_139 : decode cX7_count 139 = .ok (.iaload, 1) := by decide +kernel
theorem dX7_count_140 : decode cX7_count 140 = .ok (.ireturn, 1) := by decide +kernel
theorem dX7_count_141 : decode cX7_count 141 = .ok (.aload_n 0, 1) := by decide +kernel
theorem dX7_count_142 : decode cX7_count 142 = .ok (.getfield 7, 3) := by decide +kernel
theorem dX7_count_145 : decode cX7_count 145 = .ok (.bipush 10, 2) := by decide +kernel
theorem dX7_count_147 : decode cX7_count 147 = .ok (.iaload, 1) := by decide +kernel
theorem dX7_count_148 : decode cX7_count 148 = .ok (.ireturn, 1) := by decide +kernel
theorem dX7_count_149 : decode cX7_count 149 = .ok (.aload_n 0, 1) := by decide +kernel
theorem dX7_count_150 : decode cX7_count 150 = .ok (.invokevirtual 179, 3) := by decide +kernel
theorem dX7_count_153 : decode cX7_count 153 = .ok (.ireturn, 1) := by decide +kernel
theorem dX7_count_154 : decode cX7_count 154 = .ok (.aload_n 0, 1) := by decide +kernel
theorem dX7_count_155 : decode cX7_count 155 = .ok (.getfield 182, 3) := by decide +kernel
theorem dX7_count_158 : decode cX7_count 158 = .ok (.ireturn, 1) := by decide +kernel
theorem dX7_count_159 : decode cX7_count 159 = .ok (.iload_n 1, 1) := by decide +kernel
theorem dX7_count_160 : decode cX7_count 160 = .ok (.bipush 11, 2) := by decide +kernel
theorem dX7_count_162 : decode cX7_count 162 = .ok (.if_icmp .ne 10, 3) := by decide +kernel
theorem dX7_count_165 : decode cX7_count 165 = .ok (.aload_n 0, 1) := by decide +kernel
theorem dX7_count_166 : decode cX7_count 166 = .ok (.getfield 58, 3) := by decide +kernel
theorem dX7_count_169 : decode cX7_count 169 = .ok (.goto 5, 3) := by decide +kernel
theorem dX7_count_172 : decode cX7_count 172 = .ok (.bipush (-2), 2) := by decide +kernel
theorem dX7_count_174 : decode cX7_count 174 = .ok (.ireturn, 1) := by decide +kernel
theorem dX7_shareBits_0 : decode cX7_shareBits 0 = .ok (.aload_n 0, 1) := by decide +kernel
theorem dX7_shareBits_1 : decode cX7_shareBits 1 = .ok (.iload_n 1, 1) := by decide +kernel
theorem dX7_shareBits_2 : decode cX7_shareBits 2 = .ok (.invokevirtual 77, 3) := by decide +kernel
theorem dX7_shareBits_5 : decode cX7_shareBits 5 = .ok (.ifCond .ne 5, 3) := by decide +kernel
theorem dX7_shareBits_8 : decode cX7_shareBits 8 = .ok (.iconst (-1), 1) := by decide +kernel
theorem dX7_shareBits_9 : decode cX7_shareBits 9 = .ok (.ireturn, 1) := by decide +kernel
theorem dX7_shareBits_10 : decode cX7_shareBits 10 = .ok (.sipush 10000, 3) := by decide +kernel
theorem dX7_shareBits_13 : decode cX7_shareBits 13 = .ok (.aload_n 0, 1) := by decide +kernel
theorem dX7_shareBits_14 : decode cX7_shareBits 14 = .ok (.bipush (-6), 2) := by decide +kernel
theorem dX7_shareBits_16 : decode cX7_shareBits 16 = .ok (.invokevirtual 101, 3) := by decide +kernel
theorem dX7_shareBits_19 : decode cX7_shareBits 19 = .ok (.isub, 1) := by decide +kernel
theorem dX7_shareBits_20 : decode cX7_shareBits 20 = .ok (.istore_n 2, 1) := by decide +kernel
theorem dX7_shareBits_21 : decode cX7_shareBits 21 = .ok (.iload_n 2, 1) := by decide +kernel
theorem dX7_shareBits_22 : decode cX7_shareBits 22 = .ok (.ifCond .ne 7, 3) := by decide +kernel
theorem dX7_shareBits_25 : decode cX7_shareBits 25 = .ok (.iconst 0, 1) := by decide +kernel
theorem dX7_shareBits_26 : decode cX7_shareBits 26 = .ok (.goto 16, 3) := by decide +kernel
theorem dX7_shareBits_29 : decode cX7_shareBits 29 = .ok (.aload_n 0, 1) := by decide +kernel
theorem dX7_shareBits_30 : decode cX7_shareBits 30 = .ok (.iload_n 1, 1) := by decide +kernel
theorem dX7_shareBits_31 : decode cX7_shareBits 31 = .ok (.invokevirtual 101, 3) := by decide +kernel
theorem dX7_shareBits_34 : decode cX7_shareBits 34 = .ok (.i2d, 1) := by decide +kernel
theorem dX7_shareBits_35 : decode cX7_shareBits 35 = .ok (.iload_n 2, 1) := by decide +kernel
theorem dX7_shareBits_36 : decode cX7_shareBits 36 = .ok (.i2d, 1) := by decide +kernel
theorem dX7_shareBits_37 : decode cX7_shareBits 37 = .ok (.ddiv, 1) := by decide +kernel
theorem dX7_shareBits_38 : decode cX7_shareBits 38 = .ok (.d2f, 1) := by decide +kernel
theorem dX7_shareBits_39 : decode cX7_shareBits 39 = .ok (.invokestatic 185, 3) := by decide +kernel
theorem dX7_shareBits_42 : decode cX7_shareBits 42 = .ok (.ireturn, 1) := by decide +kernel
theorem dX7_hole_0 : decode cX7_hole 0 = .ok (.iload_n 1, 1) := by decide +kernel
theorem dX7_hole_1 : decode cX7_hole 1 = .ok (.iconst 1, 1) := by decide +kernel
theorem dX7_hole_2 : decode cX7_hole 2 = .ok (.sipush 10000, 3) := by decide +kernel
theorem dX7_hole_5 : decode cX7_hole 5 = .ok (.invokestatic 62, 3) := by decide +kernel
theorem dX7_hole_8 : decode cX7_hole 8 = .ok (.ifCond .eq 21, 3) := by decide +kernel
theorem dX7_hole_11 : decode cX7_hole 11 = .ok (.iload_n 2, 1) := by decide +kernel
theorem dX7_hole_12 : decode cX7_hole 12 = .ok (.iconst 0, 1) := by decide +kernel
theorem dX7_hole_13 : decode cX7_hole 13 = .ok (.iconst 2, 1) := by decide +kernel
theorem dX7_hole_14 : decode cX7_hole 14 = .ok (.invokestatic 62, 3) := by decide +kernel
theorem dX7_hole_17 : decode cX7_hole 17 = .ok (.ifCond .eq 12, 3) := by decide +kernel
theorem dX7_hole_20 : decode cX7_hole 20 = .ok (.aload_n 0, 1) := by decide +kernel
theorem dX7_hole_21 : decode cX7_hole 21 = .ok (.iload_n 1, 1) := by decide +kernel
theorem dX7_hole_22 : decode cX7_hole 22 = .ok (.iload_n 2, 1) := by decide +kernel
theorem dX7_hole_23 : decode cX7_hole 23 = .ok (.invokevirtual 127, 3) := by decide +kernel
theorem dX7_hole_26 : decode cX7_hole 26 = .ok (.goto 5, 3) := by decide +kernel
theorem dX7_hole_29 : decode cX7_hole 29 = .ok (.bipush (-2), 2) := by decide +kernel
theorem dX7_hole_31 : decode cX7_hole 31 = .ok (.ireturn, 1) := by decide +kernel
theorem dX7_wouldBe_0 : decode cX7_wouldBe 0 = .ok (.aload_n 0, 1) := by decide +kernel
theorem dX7_wouldBe_1 : decode cX7_wouldBe 1 = .ok (.iload_n 1, 1) := by decide +kernel
theorem dX7_wouldBe_2 : decode cX7_wouldBe 2 = .ok (.invokevirtual 77, 3) := by decide +kernel
theorem dX7_wouldBe_5 : decode cX7_wouldBe 5 = .ok (.ifCond .ne 5, 3) := by decide +kernel
theorem dX7_wouldBe_8 : decode cX7_wouldBe 8 = .ok (.iconst (-1), 1) := by decide +kernel
theorem dX7_wouldBe_9 : decode cX7_wouldBe 9 = .ok (.ireturn, 1) := by decide +kernel
theorem dX7_wouldBe_10 : decode cX7_wouldBe 10 = .ok (.iload_n 2, 1) := by decide +kernel
theorem dX7_wouldBe_11 : decode cX7_wouldBe 11 = .ok (.iload_n 3, 1) := by decide +kernel
theorem dX7_wouldBe_12 : decode cX7_wouldBe 12 = .ok (.invokestatic 104, 3) := by decide +kernel
theorem dX7_wouldBe_15 : decode cX7_wouldBe 15 = .ok (.ifCond .ne 6, 3) := by decide +kernel
theorem dX7_wouldBe_18 : decode cX7_wouldBe 18 = .ok (.bipush (-2), 2) := by decide +kernel
theorem dX7_wouldBe_20 : decode cX7_wouldBe 20 = .ok (.ireturn, 1) := by decide +kernel
theorem dX7_wouldBe_21 : decode cX7_wouldBe 21 = .ok (.aload_n 0, 1) := by decide +kernel
theorem dX7_wouldBe_22 : decode cX7_wouldBe 22 = .ok (.iload_n 2, 1) := by decide +kernel
theorem dX7_wouldBe_23 : decode cX7_wouldBe 23 = .ok (.iload_n 2, 1) := by decide +kernel
theorem dX7_wouldBe_24 : decode cX7_wouldBe 24 = .ok (.iload_n 3, 1) := by decide +kernel
theorem dX7_wouldBe_25 : decode cX7_wouldBe 25 = .ok (.iadd, 1) := by decide +kernel
theorem dX7_wouldBe_26 : decode cX7_wouldBe 26 = .ok (.iload_n 1, 1) := by decide +kernel
theorem dX7_wouldBe_27 : decode cX7_wouldBe 27 = .ok (.invokevirtual 108, 3) := by decide +kernel
theorem dX7_wouldBe_30 : decode cX7_wouldBe 30 = .ok (.aload_n 0, 1) := by decide +kernel
theorem dX7_wouldBe_31 : decode cX7_wouldBe 31 = .ok (.invokevirtual 111, 3) := by decide +kernel
theorem dX7_wouldBe_34 : decode cX7_wouldBe 34 = .ok (.ireturn, 1) := by decide +kernel
theorem dX7_ownersIn_0 : decode cX7_ownersIn 0 = .ok (.iconst 0, 1) := by decide +kernel
theorem dX7_ownersIn_1 : decode cX7_ownersIn 1 = .ok (.istore_n 3, 1) := by decide +kernel
theorem dX7_ownersIn_2 : decode cX7_ownersIn 2 = .ok (.iconst 0, 1) := by decide +kernel
theorem dX7_ownersIn_3 : decode cX7_ownersIn 3 = .ok (.istore 4, 2) := by decide +kernel
theorem dX7_ownersIn_5 : decode cX7_ownersIn 5 = .ok (.iload 4, 2) := by decide +kernel
theorem dX7_ownersIn_7 : decode cX7_ownersIn 7 = .ok (.aload_n 0, 1) := by decide +kernel
theorem dX7_ownersIn_8 : decode cX7_ownersIn 8 = .ok (.getfield 7, 3) := by decide +kernel
theorem dX7_ownersIn_11 : decode cX7_ownersIn 11 = .ok (.bipush 7, 2) := by decide +kernel
theorem dX7_ownersIn_13 : decode cX7_ownersIn 13 = .ok (.iaload, 1) := by decide +kernel
theorem dX7_ownersIn_14 : decode cX7_ownersIn 14 = .ok (.if_icmp .ge 53, 3) := by decide +kernel
theorem dX7_ownersIn_17 : decode cX7_ownersIn 17 = .ok (.iload_n 3, 1) := by decide +kernel
theorem dX7_ownersIn_18 : decode cX7_ownersIn 18 = .ok (.aload_n 0, 1) := by decide +kernel
theorem dX7_ownersIn_19 : decode cX7_ownersIn 19 = .ok (.iload 4, 2) := by decide +kernel
theorem dX7_ownersIn_21 : decode cX7_ownersIn 21 = .ok (.invokevirtual 87, 3) := by decide +kernel
theorem dX7_ownersIn_24 : decode cX7_ownersIn 24 = .ok (.ifCond .lt 34, 3) := by decide +kernel
theorem dX7_ownersIn_27 : decode cX7_ownersIn 27 = .ok (.aload_n 0, 1) := by decide +kernel
theorem dX7_ownersIn_28 : decode cX7_ownersIn 28 = .ok (.iload 4, 2) := by decide +kernel
theorem dX7_ownersIn_30 : decode cX7_ownersIn 30 = .ok (.invokevirtual 81, 3) := by decide +kernel
theorem dX7_ownersIn_33 : decode cX7_ownersIn 33 = .ok (.iload_n 2, 1) := by decide +kernel
theorem dX7_ownersIn_34 : decode cX7_ownersIn 34 = .ok (.if_icmp .ge 24, 3) := by decide +kernel
theorem dX7_ownersIn_37 : decode cX7_ownersIn 37 = .ok (.aload_n 0, 1) := by decide +kernel
theorem dX7_ownersIn_38 : decode cX7_ownersIn 38 = .ok (.iload 4, 2) := by decide +kernel
theorem dX7_ownersIn_40 : decode cX7_ownersIn 40 = .ok (.invokevirtual 84, 3) := by decide +kernel
theorem dX7_ownersIn_43 : decode cX7_ownersIn 43 = .ok (.iload_n 1, 1) := by decide +kernel
theorem dX7_ownersIn_44 : decode cX7_ownersIn 44 = .ok (.if_icmp .le 14, 3) := by decide +kernel
theorem dX7_ownersIn_47 : decode cX7_ownersIn 47 = .ok (.iconst 1, 1) := by decide +kernel
theorem dX7_ownersIn_48 : decode cX7_ownersIn 48 = .ok (.aload_n 0, 1) := by decide +kernel
theorem dX7_ownersIn_49 : decode cX7_ownersIn 49 = .ok (.iload 4, 2) := by decide +kernel
theorem dX7_ownersIn_51 : decode cX7_ownersIn 51 = .ok (.invokevirtual 87, 3) := by decide +kernel
theorem dX7_ownersIn_54 : decode cX7_ownersIn 54 = .ok (.ishl, 1) := by decide +kernel
theorem dX7_ownersIn_55 : decode cX7_ownersIn 55 = .ok (.goto 4, 3) := by decide +kernel
theorem dX7_ownersIn_58 : decode cX7_ownersIn 58 = .ok (.iconst 0, 1) := by decide +kernel
theorem dX7_ownersIn_59 : decode cX7_ownersIn 59 = .ok (.ior, 1) := by decide +kernel
theorem dX7_ownersIn_60 : decode cX7_ownersIn 60 = .ok (.istore_n 3, 1) := by decide +kernel
theorem dX7_ownersIn_61 : decode cX7_ownersIn 61 = .ok (.iinc 4 1, 3) := by decide +kernel
theorem dX7_ownersIn_64 : decode cX7_ownersIn 64 = .ok (.goto (-59), 3) := by decide +kernel
theorem dX7_ownersIn_67 : decode cX7_ownersIn 67 = .ok (.iconst 0, 1) := by decide +kernel
theorem dX7_ownersIn_68 : decode cX7_ownersIn 68 = .ok (.istore 4, 2) := by decide +kernel
theorem dX7_ownersIn_70 : decode cX7_ownersIn 70 = .ok (.iconst 0, 1) := by decide +kernel
theorem dX7_ownersIn_71 : decode cX7_ownersIn 71 = .ok (.istore 5, 2) := by decide +kernel
theorem dX7_ownersIn_73 : decode cX7_ownersIn 73 = .ok (.iload 5, 2) := by decide +kernel
theorem dX7_ownersIn_75 : decode cX7_ownersIn 75 = .ok (.bipush 10, 2) := by decide +kernel
theorem dX7_ownersIn_77 : decode cX7_ownersIn 77 = .ok (.if_icmp .ge 20, 3) := by decide +kernel
theorem dX7_ownersIn_80 : decode cX7_ownersIn 80 = .ok (.iload 4, 2) := by decide +kernel
theorem dX7_ownersIn_82 : decode cX7_ownersIn 82 = .ok (.iload_n 3, 1) := by decide +kernel
theorem dX7_ownersIn_83 : decode cX7_ownersIn 83 = .ok (.iload 5, 2) := by decide +kernel
theorem dX7_ownersIn_85 : decode cX7_ownersIn 85 = .ok (.ishr, 1) := by decide +kernel
theorem dX7_ownersIn_86 : decode cX7_ownersIn 86 = .ok (.iconst 1, 1) := by decide +kernel
theorem dX7_ownersIn_87 : decode cX7_ownersIn 87 = .ok (.iand, 1) := by decide +kernel
theorem dX7_ownersIn_88 : decode cX7_ownersIn 88 = .ok (.iadd, 1) := by decide +kernel
theorem dX7_ownersIn_89 : decode cX7_ownersIn 89 = .ok (.istore 4, 2) := by decide +kernel
theorem dX7_ownersIn_91 : decode cX7_ownersIn 91 = .ok (.iinc 5 1, 3) := by decide +kernel
theorem dX7_ownersIn_94 : decode cX7_ownersIn 94 = .ok (.goto (-21), 3) := by decide +kernel
theorem dX7_ownersIn_97 : decode cX7_ownersIn 97 = .ok (.iload 4, 2) := by decide +kernel
theorem dX7_ownersIn_99 : decode cX7_ownersIn 99 = .ok (.ireturn, 1) := by decide +kernel
theorem dX7_quietest_0 : decode cX7_quietest 0 = .ok (.iload_n 1, 1) := by decide +kernel
theorem dX7_quietest_1 : decode cX7_quietest 1 = .ok (.iconst 1, 1) := by decide +kernel
theorem dX7_quietest_2 : decode cX7_quietest 2 = .ok (.sipush 10000, 3) := by decide +kernel
theorem dX7_quietest_5 : decode cX7_quietest 5 = .ok (.invokestatic 62, 3) := by decide +kernel
theorem dX7_quietest_8 : decode cX7_quietest 8 = .ok (.ifCond .eq 12, 3) := by decide +kernel
theorem dX7_quietest_11 : decode cX7_quietest 11 = .ok (.iload_n 2, 1) := by decide +kernel
theorem dX7_quietest_12 : decode cX7_quietest 12 = .ok (.iconst 0, 1) := by decide +kernel
theorem dX7_quietest_13 : decode cX7_quietest 13 = .ok (.iconst 1, 1) := by decide +kernel
theorem dX7_quietest_14 : decode cX7_quietest 14 = .ok (.invokestatic 62, 3) := by decide +kernel
theorem dX7_quietest_17 : decode cX7_quietest 17 = .ok (.ifCond .ne 6, 3) := by decide +kernel
theorem dX7_quietest_20 : decode cX7_quietest 20 = .ok (.bipush (-2), 2) := by decide +kernel
theorem dX7_quietest_22 : decode cX7_quietest 22 = .ok (.ireturn, 1) := by decide +kernel
theorem dX7_quietest_23 : decode cX7_quietest 23 = .ok (.iconst 0, 1) := by decide +kernel
theorem dX7_quietest_24 : decode cX7_quietest 24 = .ok (.istore_n 3, 1) := by decide +kernel
theorem dX7_quietest_25 : decode cX7_quietest 25 = .ok (.bipush 99, 2) := by decide +kernel
theorem dX7_quietest_27 : decode cX7_quietest 27 = .ok (.istore 4, 2) := by decide +kernel
theorem dX7_quietest_29 : decode cX7_quietest 29 = .ok (.iconst 0, 1) := by decide +kernel
theorem dX7_quietest_30 : decode cX7_quietest 30 = .ok (.istore 5, 2) := by decide +kernel
theorem dX7_quietest_32 : decode cX7_quietest 32 = .ok (.iload 5, 2) := by decide +kernel
theorem dX7_quietest_34 : decode cX7_quietest 34 = .ok (.iload_n 1, 1) := by decide +kernel
theorem dX7_quietest_35 : decode cX7_quietest 35 = .ok (.iadd, 1) := by decide +kernel
theorem dX7_quietest_36 : decode cX7_quietest 36 = .ok (.sipush 10000, 3) := by decide +kernel
theorem dX7_quietest_39 : decode cX7_quietest 39 = .ok (.if_icmp .gt 56, 3) := by decide +kernel
theorem dX7_quietest_42 : decode cX7_quietest 42 = .ok (.iload 4, 2) := by decide +kernel
theorem dX7_quietest_44 : decode cX7_quietest 44 = .ok (.ifCond .le 51, 3) := by decide +kernel
theorem dX7_quietest_47 : decode cX7_quietest 47 = .ok (.aload_n 0, 1) := by decide +kernel
theorem dX7_quietest_48 : decode cX7_quietest 48 = .ok (.iload 5, 2) := by decide +kernel
theorem dX7_quietest_50 : decode cX7_quietest 50 = .ok (.iload 5, 2) := by decide +kernel
theorem dX7_quietest_52 : decode cX7_quietest 52 = .ok (.iload_n 1, 1) := by decide +kernel
theorem dX7_quietest_53 : decode cX7_quietest 53 = .ok (.iadd, 1) := by decide +kernel
theorem dX7_quietest_54 : decode cX7_quietest 54 = .ok (.invokevirtual 191, 3) := by decide +kernel
theorem dX7_quietest_57 : decode cX7_quietest 57 = .ok (.istore 6, 2) := by decide +kernel
theorem dX7_quietest_59 : decode cX7_quietest 59 = .ok (.iload 6, 2) := by decide +kernel
theorem dX7_quietest_61 : decode cX7_quietest 61 = .ok (.iload 4, 2) := by decide +kernel
theorem dX7_quietest_63 : decode cX7_quietest 63 = .ok (.if_icmp .ge 8, 3) := by decide +kernel
theorem dX7_quietest_66 : decode cX7_quietest 66 = .ok (.iload 5, 2) := by decide +kernel
theorem dX7_quietest_68 : decode cX7_quietest 68 = .ok (.goto 4, 3) := by decide +kernel
theorem dX7_quietest_71 : decode cX7_quietest 71 = .ok (.iload_n 3, 1) := by decide +kernel
theorem dX7_quietest_72 : decode cX7_quietest 72 = .ok (.istore_n 3, 1) := by decide +kernel
theorem dX7_quietest_73 : decode cX7_quietest 73 = .ok (.iload 6, 2) := by decide +kernel
theorem dX7_quietest_75 : decode cX7_quietest 75 = .ok (.iload 4, 2) := by decide +kernel
theorem dX7_quietest_77 : decode cX7_quietest 77 = .ok (.if_icmp .ge 8, 3) := by decide +kernel
theorem dX7_quietest_80 : decode cX7_quietest 80 = .ok (.iload 6, 2) := by decide +kernel
theorem dX7_quietest_82 : decode cX7_quietest 82 = .ok (.goto 5, 3) := by decide +kernel
theorem dX7_quietest_85 : decode cX7_quietest 85 = .ok (.iload 4, 2) := by decide +kernel
theorem dX7_quietest_87 : decode cX7_quietest 87 = .ok (.istore 4, 2) := by decide +kernel
theorem dX7_quietest_89 : decode cX7_quietest 89 = .ok (.iinc 5 1, 3) := by decide +kernel
theorem dX7_quietest_92 : decode cX7_quietest 92 = .ok (.goto (-60), 3) := by decide +kernel
theorem dX7_quietest_95 : decode cX7_quietest 95 = .ok (.iload_n 2, 1) := by decide +kernel
theorem dX7_quietest_96 : decode cX7_quietest 96 = .ok (.ifCond .ne 7, 3) := by decide +kernel
theorem dX7_quietest_99 : decode cX7_quietest 99 = .ok (.iload_n 3, 1) := by decide +kernel
theorem dX7_quietest_100 : decode cX7_quietest 100 = .ok (.goto 5, 3) := by decide +kernel
theorem dX7_quietest_103 : decode cX7_quietest 103 = .ok (.iload 4, 2) := by decide +kernel
theorem dX7_quietest_105 : decode cX7_quietest 105 = .ok (.ireturn, 1) := by decide +kernel
theorem dX7_gaps_0 : decode cX7_gaps 0 = .ok (.aload_n 0, 1) := by decide +kernel
theorem dX7_gaps_1 : decode cX7_gaps 1 = .ok (.iload_n 1, 1) := by decide +kernel
theorem dX7_gaps_2 : decode cX7_gaps 2 = .ok (.invokevirtual 77, 3) := by decide +kernel
theorem dX7_gaps_5 : decode cX7_gaps 5 = .ok (.ifCond .ne 5, 3) := by decide +kernel
theorem dX7_gaps_8 : decode cX7_gaps 8 = .ok (.iconst (-1), 1) := by decide +kernel
theorem dX7_gaps_9 : decode cX7_gaps 9 = .ok (.ireturn, 1) := by decide +kernel
theorem dX7_gaps_10 : decode cX7_gaps 10 = .ok (.bipush (-6), 2) := by decide +kernel
theorem dX7_gaps_12 : decode cX7_gaps 12 = .ok (.istore_n 2, 1) := by decide +kernel
theorem dX7_gaps_13 : decode cX7_gaps 13 = .ok (.iconst 0, 1) := by decide +kernel
theorem dX7_gaps_14 : decode cX7_gaps 14 = .ok (.istore_n 3, 1) := by decide +kernel
theorem dX7_gaps_15 : decode cX7_gaps 15 = .ok (.iconst 0, 1) := by decide +kernel
theorem dX7_gaps_16 : decode cX7_gaps 16 = .ok (.istore 4, 2) := by decide +kernel
theorem dX7_gaps_18 : decode cX7_gaps 18 = .ok (.iload 4, 2) := by decide +kernel
theorem dX7_gaps_20 : decode cX7_gaps 20 = .ok (.aload_n 0, 1) := by decide +kernel
theorem dX7_gaps_21 : decode cX7_gaps 21 = .ok (.getfield 7, 3) := by decide +kernel
theorem dX7_gaps_24 : decode cX7_gaps 24 = .ok (.bipush 7, 2) := by decide +kernel
theorem dX7_gaps_26 : decode cX7_gaps 26 = .ok (.iaload, 1) := by decide +kernel
theorem dX7_gaps_27 : decode cX7_gaps 27 = .ok (.if_icmp .ge 55, 3) := by decide +kernel
theorem dX7_gaps_30 : decode cX7_gaps 30 = .ok (.aload_n 0, 1) := by decide +kernel
theorem dX7_gaps_31 : decode cX7_gaps 31 = .ok (.iload 4, 2) := by decide +kernel
theorem dX7_gaps_33 : decode cX7_gaps 33 = .ok (.invokevirtual 87, 3) := by decide +kernel
theorem dX7_gaps_36 : decode cX7_gaps 36 = .ok (.iload_n 1, 1) := by decide +kernel
theorem dX7_gaps_37 : decode cX7_gaps 37 = .ok (.if_icmp .ne 16, 3) := by decide +kernel
theorem dX7_gaps_40 : decode cX7_gaps 40 = .ok (.iload_n 2, 1) := by decide +kernel
theorem dX7_gaps_41 : decode cX7_gaps 41 = .ok (.ifCond .ge 12, 3) := by decide +kernel
theorem dX7_gaps_44 : decode cX7_gaps 44 = .ok (.aload_n 0, 1) := by decide +kernel
theorem dX7_gaps_45 : decode cX7_gaps 45 = .ok (.iload 4, 2) := by decide +kernel
theorem dX7_gaps_47 : decode cX7_gaps 47 = .ok (.invokevirtual 81, 3) := by decide +kernel
theorem dX7_gaps_50 : decode cX7_gaps 50 = .ok (.goto 4, 3) := by decide +kernel
theorem dX7_gaps_53 : decode cX7_gaps 53 = .ok (.iload_n 2, 1) := by decide +kernel
theorem dX7_gaps_54 : decode cX7_gaps 54 = .ok (.istore_n 2, 1) := by decide +kernel
theorem dX7_gaps_55 : decode cX7_gaps 55 = .ok (.aload_n 0, 1) := by decide +kernel
theorem dX7_gaps_56 : decode cX7_gaps 56 = .ok (.iload 4, 2) := by decide +kernel
theorem dX7_gaps_58 : decode cX7_gaps 58 = .ok (.invokevirtual 87, 3) := by decide +kernel
theorem dX7_gaps_61 : decode cX7_gaps 61 = .ok (.iload_n 1, 1) := by decide +kernel
theorem dX7_gaps_62 : decode cX7_gaps 62 = .ok (.if_icmp .ne 12, 3) := by decide +kernel
theorem dX7_gaps_65 : decode cX7_gaps 65 = .ok (.aload_n 0, 1) := by decide +kernel
theorem dX7_gaps_66 : decode cX7_gaps 66 = .ok (.iload 4, 2) := by decide +kernel
theorem dX7_gaps_68 : decode cX7_gaps 68 = .ok (.invokevirtual 84, 3) := by decide +kernel
theorem dX7_gaps_71 : decode cX7_gaps 71 = .ok (.goto 4, 3) := by decide +kernel
theorem dX7_gaps_74 : decode cX7_gaps 74 = .ok (.iload_n 3, 1) := by decide +kernel
theorem dX7_gaps_75 : decode cX7_gaps 75 = .ok (.istore_n 3, 1) := by decide +kernel
theorem dX7_gaps_76 : decode cX7_gaps 76 = .ok (.iinc 4 1, 3) := by decide +kernel
theorem dX7_gaps_79 : decode cX7_gaps 79 = .ok (.goto (-61), 3) := by decide +kernel
theorem dX7_gaps_82 : decode cX7_gaps 82 = .ok (.iload_n 2, 1) := by decide +kernel
theorem dX7_gaps_83 : decode cX7_gaps 83 = .ok (.ifCond .ge 7, 3) := by decide +kernel
theorem dX7_gaps_86 : decode cX7_gaps 86 = .ok (.iconst 0, 1) := by decide +kernel
theorem dX7_gaps_87 : decode cX7_gaps 87 = .ok (.goto 12, 3) := by decide +kernel
theorem dX7_gaps_90 : decode cX7_gaps 90 = .ok (.iload_n 3, 1) := by decide +kernel
theorem dX7_gaps_91 : decode cX7_gaps 91 = .ok (.iload_n 2, 1) := by decide +kernel
theorem dX7_gaps_92 : decode cX7_gaps 92 = .ok (.isub, 1) := by decide +kernel
theorem dX7_gaps_93 : decode cX7_gaps 93 = .ok (.aload_n 0, 1) := by decide +kernel
theorem dX7_gaps_94 : decode cX7_gaps 94 = .ok (.iload_n 1, 1) := by decide +kernel
theorem dX7_gaps_95 : decode cX7_gaps 95 = .ok (.invokevirtual 101, 3) := by decide +kernel
theorem dX7_gaps_98 : decode cX7_gaps 98 = .ok (.isub, 1) := by decide +kernel
theorem dX7_gaps_99 : decode cX7_gaps 99 = .ok (.ireturn, 1) := by decide +kernel
theorem dX7_rangesBy_0 : decode cX7_rangesBy 0 = .ok (.aload_n 0, 1) := by decide +kernel
theorem dX7_rangesBy_1 : decode cX7_rangesBy 1 = .ok (.iconst 0, 1) := by decide +kernel
theorem dX7_rangesBy_2 : decode cX7_rangesBy 2 = .ok (.putfield 90, 3) := by decide +kernel
theorem dX7_rangesBy_5 : decode cX7_rangesBy 5 = .ok (.iconst 0, 1) := by decide +kernel
theorem dX7_rangesBy_6 : decode cX7_rangesBy 6 = .ok (.istore_n 3, 1) := by decide +kernel
theorem dX7_rangesBy_7 : decode cX7_rangesBy 7 = .ok (.iload_n 3, 1) := by decide +kernel
theorem dX7_rangesBy_8 : decode cX7_rangesBy 8 = .ok (.aload_n 0, 1) := by decide +kernel
theorem dX7_rangesBy_9 : decode cX7_rangesBy 9 = .ok (.getfield 7, 3) := by decide +kernel
theorem dX7_rangesBy_12 : decode cX7_rangesBy 12 = .ok (.bipush 7, 2) := by decide +kernel
theorem dX7_rangesBy_14 : decode cX7_rangesBy 14 = .ok (.iaload, 1) := by decide +kernel
theorem dX7_rangesBy_15 : decode cX7_rangesBy 15 = .ok (.if_icmp .ge 54, 3) := by decide +kernel
theorem dX7_rangesBy_18 : decode cX7_rangesBy 18 = .ok (.aload_n 0, 1) := by decide +kernel
theorem dX7_rangesBy_19 : decode cX7_rangesBy 19 = .ok (.aload_n 0, 1) := by decide +kernel
theorem dX7_rangesBy_20 : decode cX7_rangesBy 20 = .ok (.iload_n 3, 1) := by decide +kernel
theorem dX7_rangesBy_21 : decode cX7_rangesBy 21 = .ok (.invokevirtual 81, 3) := by decide +kernel
theorem dX7_rangesBy_24 : decode cX7_rangesBy 24 = .ok (.aload_n 0, 1) := by decide +kernel
theorem dX7_rangesBy_25 : decode cX7_rangesBy 25 = .ok (.iload_n 3, 1) := by decide +kernel
theorem dX7_rangesBy_26 : decode cX7_rangesBy 26 = .ok (.invokevirtual 84, 3) := by decide +kernel
theorem dX7_rangesBy_29 : decode cX7_rangesBy 29 = .ok (.iload_n 3, 1) := by decide +kernel
theorem dX7_rangesBy_30 : decode cX7_rangesBy 30 = .ok (.iload_n 1, 1) := by decide +kernel
theorem dX7_rangesBy_31 : decode cX7_rangesBy 31 = .ok (.if_icmp .ne 11, 3) := by decide +kernel
theorem dX7_rangesBy_34 : decode cX7_rangesBy 34 = .ok (.aload_n 0, 1) := by decide +kernel
theorem dX7_rangesBy_35 : decode cX7_rangesBy 35 = .ok (.iload_n 2, 1) := by decide +kernel
theorem dX7_rangesBy_36 : decode cX7_rangesBy 36 = .ok (.invokevirtual 87, 3) := by decide +kernel
theorem dX7_rangesBy_39 : decode cX7_rangesBy 39 = .ok (.goto 21, 3) := by decide +kernel
theorem dX7_rangesBy_42 : decode cX7_rangesBy 42 = .ok (.iload_n 3, 1) := by decide +kernel
theorem dX7_rangesBy_43 : decode cX7_rangesBy 43 = .ok (.iload_n 2, 1) := by decide +kernel
theorem dX7_rangesBy_44 : decode cX7_rangesBy 44 = .ok (.if_icmp .ne 11, 3) := by decide +kernel
theorem dX7_rangesBy_47 : decode cX7_rangesBy 47 = .ok (.aload_n 0, 1) := by decide +kernel
theorem dX7_rangesBy_48 : decode cX7_rangesBy 48 = .ok (.iload_n 1, 1) := by decide +kernel
theorem dX7_rangesBy_49 : decode cX7_rangesBy 49 = .ok (.invokevirtual 87, 3) := by decide +kernel
theorem dX7_rangesBy_52 : decode cX7_rangesBy 52 = .ok (.goto 8, 3) := by decide +kernel
theorem dX7_rangesBy_55 : decode cX7_rangesBy 55 = .ok (.aload_n 0, 1) := by decide +kernel
theorem dX7_rangesBy_56 : decode cX7_rangesBy 56 = .ok (.iload_n 3, 1) := by decide +kernel
theorem dX7_rangesBy_57 : decode cX7_rangesBy 57 = .ok (.invokevirtual 87, 3) := by decide +kernel
theorem dX7_rangesBy_60 : decode cX7_rangesBy 60 = .ok (.invokevirtual 93, 3) := by decide +kernel
theorem dX7_rangesBy_63 : decode cX7_rangesBy 63 = .ok (.iinc 3 1, 3) := by decide +kernel
theorem dX7_rangesBy_66 : decode cX7_rangesBy 66 = .ok (.goto (-59), 3) := by decide +kernel
theorem dX7_rangesBy_69 : decode cX7_rangesBy 69 = .ok (.aload_n 0, 1) := by decide +kernel
theorem dX7_rangesBy_70 : decode cX7_rangesBy 70 = .ok (.invokevirtual 111, 3) := by decide +kernel
theorem dX7_rangesBy_73 : decode cX7_rangesBy 73 = .ok (.ireturn, 1) := by decide +kernel
theorem dX7_exchange_0 : decode cX7_exchange 0 = .ok (.iload_n 1, 1) := by decide +kernel
theorem dX7_exchange_1 : decode cX7_exchange 1 = .ok (.iconst 0, 1) := by decide +kernel
theorem dX7_exchange_2 : decode cX7_exchange 2 = .ok (.iconst 2, 1) := by decide +kernel
theorem dX7_exchange_3 : decode cX7_exchange 3 = .ok (.invokestatic 62, 3) := by decide +kernel
theorem dX7_exchange_6 : decode cX7_exchange 6 = .ok (.ifCond .ne 6, 3) := by decide +kernel
theorem dX7_exchange_9 : decode cX7_exchange 9 = .ok (.bipush (-2), 2) := by decide +kernel
theorem dX7_exchange_11 : decode cX7_exchange 11 = .ok (.ireturn, 1) := by decide +kernel
theorem dX7_exchange_12 : decode cX7_exchange 12 = .ok (.aload_n 0, 1) := by decide +kernel
theorem dX7_exchange_13 : decode cX7_exchange 13 = .ok (.invokevirtual 121, 3) := by decide +kernel
theorem dX7_exchange_16 : decode cX7_exchange 16 = .ok (.istore_n 2, 1) := by decide +kernel
theorem dX7_exchange_17 : decode cX7_exchange 17 = .ok (.iload_n 2, 1) := by decide +kernel
theorem dX7_exchange_18 : decode cX7_exchange 18 = .ok (.istore_n 3, 1) := by decide +kernel
theorem dX7_exchange_19 : decode cX7_exchange 19 = .ok (.bipush (-6), 2) := by decide +kernel
theorem dX7_exchange_21 : decode cX7_exchange 21 = .ok (.istore 4, 2) := by decide +kernel
theorem dX7_exchange_23 : decode cX7_exchange 23 = .ok (.bipush (-6), 2) := by decide +kernel
theorem dX7_exchange_25 : decode cX7_exchange 25 = .ok (.istore 5, 2) := by decide +kernel
theorem dX7_exchange_27 : decode cX7_exchange 27 = .ok (.iconst 0, 1) := by decide +kernel
theorem dX7_exchange_28 : decode cX7_exchange 28 = .ok (.istore 6, 2) := by decide +kernel
theorem dX7_exchange_30 : decode cX7_exchange 30 = .ok (.iload 6, 2) := by decide +kernel
theorem dX7_exchange_32 : decode cX7_exchange 32 = .ok (.iload_n 2, 1) := by decide +kernel
theorem dX7_exchange_33 : decode cX7_exchange 33 = .ok (.if_icmp .ge 102, 3) := by decide +kernel
theorem dX7_exchange_36 : decode cX7_exchange 36 = .ok (.iload 6, 2) := by decide +kernel
theorem dX7_exchange_38 : decode cX7_exchange 38 = .ok (.iconst 1, 1) := by decide +kernel
theorem dX7_exchange_39 : decode cX7_exchange 39 = .ok (.iadd, 1) := by decide +kernel
theorem dX7_exchange_40 : decode cX7_exchange 40 = .ok (.istore 7, 2) := by decide +kernel
theorem dX7_exchange_42 : decode cX7_exchange 42 = .ok (.iload 7, 2) := by decide +kernel
theorem dX7_exchange_44 : decode cX7_exchange 44 = .ok (.iload_n 2, 1) := by decide +kernel
theorem dX7_exchange_45 : decode cX7_exchange 45 = .ok (.if_icmp .ge 84, 3) := by decide +kernel
theorem dX7_exchange_48 : decode cX7_exchange 48 = .ok (.aload_n 0, 1) := by decide +kernel
theorem dX7_exchange_49 : decode cX7_exchange 49 = .ok (.iload 6, 2) := by decide +kernel
theorem dX7_exchange_51 : decode cX7_exchange 51 = .ok (.invokevirtual 168, 3) := by decide +kernel
theorem dX7_exchange_54 : decode cX7_exchange 54 = .ok (.istore 8, 2) := by decide +kernel
theorem dX7_exchange_56 : decode cX7_exchange 56 = .ok (.aload_n 0, 1) := by decide +kernel
theorem dX7_exchange_57 : decode cX7_exchange 57 = .ok (.iload 7, 2) := by decide +kernel
theorem dX7_exchange_59 : decode cX7_exchange 59 = .ok (.invokevirtual 168, 3) := by decide +kernel
theorem dX7_exchange_62 : decode cX7_exchange 62 = .ok (.istore 9, 2) := by decide +kernel
theorem dX7_exchange_64 : decode cX7_exchange 64 = .ok (.aload_n 0, 1) := by decide +kernel
theorem dX7_exchange_65 : decode cX7_exchange 65 = .ok (.iload 8, 2) := by decide +kernel
theorem dX7_exchange_67 : decode cX7_exchange 67 = .ok (.invokevirtual 124, 3) := by decide +kernel
theorem dX7_exchange_70 : decode cX7_exchange 70 = .ok (.aload_n 0, 1) := by decide +kernel
theorem dX7_exchange_71 : decode cX7_exchange 71 = .ok (.iload 9, 2) := by decide +kernel
theorem dX7_exchange_73 : decode cX7_exchange 73 = .ok (.invokevirtual 124, 3) := by decide +kernel
theorem dX7_exchange_76 : decode cX7_exchange 76 = .ok (.if_icmp .ne 47, 3) := by decide +kernel
theorem dX7_exchange_79 : decode cX7_exchange 79 = .ok (.aload_n 0, 1) := by decide +kernel
theorem dX7_exchange_80 : decode cX7_exchange 80 = .ok (.iload 8, 2) := by decide +kernel
theorem dX7_exchange_82 : decode cX7_exchange 82 = .ok (.invokevirtual 87, 3) := by decide +kernel
theorem dX7_exchange_85 : decode cX7_exchange 85 = .ok (.aload_n 0, 1) := by decide +kernel
theorem dX7_exchange_86 : decode cX7_exchange 86 = .ok (.iload 9, 2) := by decide +kernel
theorem dX7_exchange_88 : decode cX7_exchange 88 = .ok (.invokevirtual 87, 3) := by decide +kernel
theorem dX7_exchange_91 : decode cX7_exchange 91 = .ok (.if_icmp .eq 32, 3) := by decide +kernel
theorem dX7_exchange_94 : decode cX7_exchange 94 = .ok (.aload_n 0, 1) := by decide +kernel
theorem dX7_exchange_95 : decode cX7_exchange 95 = .ok (.iload 8, 2) := by decide +kernel
theorem dX7_exchange_97 : decode cX7_exchange 97 = .ok (.iload 9, 2) := by decide +kernel
theorem dX7_exchange_99 : decode cX7_exchange 99 = .ok (.invokevirtual 194, 3) := by decide +kernel
theorem dX7_exchange_102 : decode cX7_exchange 102 = .ok (.iload_n 3, 1) := by decide +kernel
theorem dX7_exchange_103 : decode cX7_exchange 103 = .ok (.if_icmp .ge 20, 3) := by decide +kernel
theorem dX7_exchange_106 : decode cX7_exchange 106 = .ok (.aload_n 0, 1) := by decide +kernel
theorem dX7_exchange_107 : decode cX7_exchange 107 = .ok (.iload 8, 2) := by decide +kernel
theorem dX7_exchange_109 : decode cX7_exchange 109 = .ok (.iload 9, 2) := by decide +kernel
theorem dX7_exchange_111 : decode cX7_exchange 111 = .ok (.invokevirtual 194, 3) := by decide +kernel
theorem dX7_exchange_114 : decode cX7_exchange 114 = .ok (.istore_n 3, 1) := by decide +kernel
theorem dX7_exchange_115 : decode cX7_exchange 115 = .ok (.iload 6, 2) := by decide +kernel
theorem dX7_exchange_117 : decode cX7_exchange 117 = .ok (.istore 4, 2) := by decide +kernel
theorem dX7_exchange_119 : decode cX7_exchange 119 = .ok (.iload 7, 2) := by decide +kernel
theorem dX7_exchange_121 : decode cX7_exchange 121 = .ok (.istore 5, 2) := by decide +kernel
theorem dX7_exchange_123 : decode cX7_exchange 123 = .ok (.iinc 7 1, 3) := by decide +kernel
theorem dX7_exchange_126 : decode cX7_exchange 126 = .ok (.goto (-84), 3) := by decide +kernel
theorem dX7_exchange_129 : decode cX7_exchange 129 = .ok (.iinc 6 1, 3) := by decide +kernel
theorem dX7_exchange_132 : decode cX7_exchange 132 = .ok (.goto (-102), 3) := by decide +kernel
theorem dX7_exchange_135 : decode cX7_exchange 135 = .ok (.iload 4, 2) := by decide +kernel
theorem dX7_exchange_137 : decode cX7_exchange 137 = .ok (.ifCond .ge 8, 3) := by decide +kernel
theorem dX7_exchange_140 : decode cX7_exchange 140 = .ok (.bipush (-6), 2) := by decide +kernel
theorem dX7_exchange_142 : decode cX7_exchange 142 = .ok (.goto 23, 3) := by decide +kernel
theorem dX7_exchange_145 : decode cX7_exchange 145 = .ok (.iload_n 1, 1) := by decide +kernel
theorem dX7_exchange_146 : decode cX7_exchange 146 = .ok (.ifCond .ne 8, 3) := by decide +kernel
theorem dX7_exchange_149 : decode cX7_exchange 149 = .ok (.iload 4, 2) := by decide +kernel
theorem dX7_exchange_151 : decode cX7_exchange 151 = .ok (.goto 14, 3) := by decide +kernel
theorem dX7_exchange_154 : decode cX7_exchange 154 = .ok (.iload_n 1, 1) := by decide +kernel
theorem dX7_exchange_155 : decode cX7_exchange 155 = .ok (.iconst 1, 1) := by decide +kernel
theorem dX7_exchange_156 : decode cX7_exchange 156 = .ok (.if_icmp .ne 8, 3) := by decide +kernel
theorem dX7_exchange_159 : decode cX7_exchange 159 = .ok (.iload 5, 2) := by decide +kernel
theorem dX7_exchange_161 : decode cX7_exchange 161 = .ok (.goto 4, 3) := by decide +kernel
theorem dX7_exchange_164 : decode cX7_exchange 164 = .ok (.iload_n 3, 1) := by decide +kernel
theorem dX7_exchange_165 : decode cX7_exchange 165 = .ok (.ireturn, 1) := by decide +kernel
theorem dX7_losesIn_0 : decode cX7_losesIn 0 = .ok (.aload_n 0, 1) := by decide +kernel
theorem dX7_losesIn_1 : decode cX7_losesIn 1 = .ok (.iload_n 1, 1) := by decide +kernel
theorem dX7_losesIn_2 : decode cX7_losesIn 2 = .ok (.invokevirtual 77, 3) := by decide +kernel
theorem dX7_losesIn_5 : decode cX7_losesIn 5 = .ok (.ifCond .ne 5, 3) := by decide +kernel
theorem dX7_losesIn_8 : decode cX7_losesIn 8 = .ok (.iconst (-1), 1) := by decide +kernel
theorem dX7_losesIn_9 : decode cX7_losesIn 9 = .ok (.ireturn, 1) := by decide +kernel
theorem dX7_losesIn_10 : decode cX7_losesIn 10 = .ok (.aload_n 0, 1) := by decide +kernel
theorem dX7_losesIn_11 : decode cX7_losesIn 11 = .ok (.invokevirtual 141, 3) := by decide +kernel
theorem dX7_losesIn_14 : decode cX7_losesIn 14 = .ok (.aload_n 0, 1) := by decide +kernel
theorem dX7_losesIn_15 : decode cX7_losesIn 15 = .ok (.getfield 7, 3) := by decide +kernel
theorem dX7_losesIn_18 : decode cX7_losesIn 18 = .ok (.bipush 20, 2) := by decide +kernel
theorem dX7_losesIn_20 : decode cX7_losesIn 20 = .ok (.iconst 2, 1) := by decide +kernel
theorem dX7_losesIn_21 : decode cX7_losesIn 21 = .ok (.iload_n 1, 1) := by decide +kernel
theorem dX7_losesIn_22 : decode cX7_losesIn 22 = .ok (.imul, 1) := by decide +kernel
theorem dX7_losesIn_23 : decode cX7_losesIn 23 = .ok (.iadd, 1) := by decide +kernel
theorem dX7_losesIn_24 : decode cX7_losesIn 24 = .ok (.iconst 1, 1) := by decide +kernel
theorem dX7_losesIn_25 : decode cX7_losesIn 25 = .ok (.iadd, 1) := by decide +kernel
theorem dX7_losesIn_26 : decode cX7_losesIn 26 = .ok (.iaload, 1) := by decide +kernel
theorem dX7_losesIn_27 : decode cX7_losesIn 27 = .ok (.istore_n 2, 1) := by decide +kernel
theorem dX7_losesIn_28 : decode cX7_losesIn 28 = .ok (.bipush (-6), 2) := by decide +kernel
theorem dX7_losesIn_30 : decode cX7_losesIn 30 = .ok (.istore_n 3, 1) := by decide +kernel
theorem dX7_losesIn_31 : decode cX7_losesIn 31 = .ok (.iconst 1, 1) := by decide +kernel
theorem dX7_losesIn_32 : decode cX7_losesIn 32 = .ok (.istore 4, 2) := by decide +kernel
theorem dX7_losesIn_34 : decode cX7_losesIn 34 = .ok (.iload 4, 2) := by decide +kernel
theorem dX7_losesIn_36 : decode cX7_losesIn 36 = .ok (.sipush 300, 3) := by decide +kernel
theorem dX7_losesIn_39 : decode cX7_losesIn 39 = .ok (.if_icmp .gt 41, 3) := by decide +kernel
theorem dX7_losesIn_42 : decode cX7_losesIn 42 = .ok (.iload_n 3, 1) := by decide +kernel
theorem dX7_losesIn_43 : decode cX7_losesIn 43 = .ok (.ifCond .ge 37, 3) := by decide +kernel
theorem dX7_losesIn_46 : decode cX7_losesIn 46 = .ok (.aload_n 0, 1) := by decide +kernel
theorem dX7_losesIn_47 : decode cX7_losesIn 47 = .ok (.invokevirtual 165, 3) := by decide +kernel
theorem dX7_losesIn_50 : decode cX7_losesIn 50 = .ok (.aload_n 0, 1) := by decide +kernel
theorem dX7_losesIn_51 : decode cX7_losesIn 51 = .ok (.getfield 7, 3) := by decide +kernel
theorem dX7_losesIn_54 : decode cX7_losesIn 54 = .ok (.bipush 20, 2) := by decide +kernel
theorem dX7_losesIn_56 : decode cX7_losesIn 56 = .ok (.iconst 2, 1) := by decide +kernel
theorem dX7_losesIn_57 : decode cX7_losesIn 57 = .ok (.iload_n 1, 1) := by decide +kernel
theorem dX7_losesIn_58 : decode cX7_losesIn 58 = .ok (.imul, 1) := by decide +kernel
theorem dX7_losesIn_59 : decode cX7_losesIn 59 = .ok (.iadd, 1) := by decide +kernel
theorem dX7_losesIn_60 : decode cX7_losesIn 60 = .ok (.iconst 1, 1) := by decide +kernel
theorem dX7_losesIn_61 : decode cX7_losesIn 61 = .ok (.iadd, 1) := by decide +kernel
theorem dX7_losesIn_62 : decode cX7_losesIn 62 = .ok (.iaload, 1) := by decide +kernel
theorem dX7_losesIn_63 : decode cX7_losesIn 63 = .ok (.iload_n 2, 1) := by decide +kernel
theorem dX7_losesIn_64 : decode cX7_losesIn 64 = .ok (.if_icmp .le 8, 3) := by decide +kernel
theorem dX7_losesIn_67 : decode cX7_losesIn 67 = .ok (.iload 4, 2) := by decide +kernel
theorem dX7_losesIn_69 : decode cX7_losesIn 69 = .ok (.goto 4, 3) := by decide +kernel
theorem dX7_losesIn_72 : decode cX7_losesIn 72 = .ok (.iload_n 3, 1) := by decide +kernel
theorem dX7_losesIn_73 : decode cX7_losesIn 73 = .ok (.istore_n 3, 1) := by decide +kernel
theorem dX7_losesIn_74 : decode cX7_losesIn 74 = .ok (.iinc 4 1, 3) := by decide +kernel
theorem dX7_losesIn_77 : decode cX7_losesIn 77 = .ok (.goto (-43), 3) := by decide +kernel
theorem dX7_losesIn_80 : decode cX7_losesIn 80 = .ok (.aload_n 0, 1) := by decide +kernel
theorem dX7_losesIn_81 : decode cX7_losesIn 81 = .ok (.invokevirtual 147, 3) := by decide +kernel
theorem dX7_losesIn_84 : decode cX7_losesIn 84 = .ok (.iload_n 3, 1) := by decide +kernel
theorem dX7_losesIn_85 : decode cX7_losesIn 85 = .ok (.ireturn, 1) := by decide +kernel
theorem dX7_sign_0 : decode cX7_sign 0 = .ok (.aload_n 0, 1) := by decide +kernel
theorem dX7_sign_1 : decode cX7_sign 1 = .ok (.getfield 197, 3) := by decide +kernel
theorem dX7_sign_4 : decode cX7_sign 4 = .ok (.aload_n 0, 1) := by decide +kernel
theorem dX7_sign_5 : decode cX7_sign 5 = .ok (.getfield 182, 3) := by decide +kernel
theorem dX7_sign_8 : decode cX7_sign 8 = .ok (.if_icmp .ge 15, 3) := by decide +kernel
theorem dX7_sign_11 : decode cX7_sign 11 = .ok (.aload_n 0, 1) := by decide +kernel
theorem dX7_sign_12 : decode cX7_sign 12 = .ok (.getfield 42, 3) := by decide +kernel
theorem dX7_sign_15 : decode cX7_sign 15 = .ok (.aload_n 0, 1) := by decide +kernel
theorem dX7_sign_16 : decode cX7_sign 16 = .ok (.getfield 197, 3) := by decide +kernel
theorem dX7_sign_19 : decode cX7_sign 19 = .ok (.iaload, 1) := by decide +kernel
theorem dX7_sign_20 : decode cX7_sign 20 = .ok (.goto 4, 3) := by decide +kernel
theorem dX7_sign_23 : decode cX7_sign 23 = .ok (.iconst 0, 1) := by decide +kernel
theorem dX7_sign_24 : decode cX7_sign 24 = .ok (.ireturn, 1) := by decide +kernel
theorem dX7_one_0 : decode cX7_one 0 = .ok (.aload_n 0, 1) := by decide +kernel
theorem dX7_one_1 : decode cX7_one 1 = .ok (.invokevirtual 200, 3) := by decide +kernel
theorem dX7_one_4 : decode cX7_one 4 = .ok (.iload_n 1, 1) := by decide +kernel
theorem dX7_one_5 : decode cX7_one 5 = .ok (.isub, 1) := by decide +kernel
theorem dX7_one_6 : decode cX7_one 6 = .ok (.istore_n 3, 1) := by decide +kernel
theorem dX7_one_7 : decode cX7_one 7 = .ok (.aload_n 0, 1) := by decide +kernel
theorem dX7_one_8 : decode cX7_one 8 = .ok (.aload_n 0, 1) := by decide +kernel
theorem dX7_one_9 : decode cX7_one 9 = .ok (.getfield 203, 3) := by decide +kernel
theorem dX7_one_12 : decode cX7_one 12 = .ok (.ifCond .ne 12, 3) := by decide +kernel
theorem dX7_one_15 : decode cX7_one 15 = .ok (.iload_n 3, 1) := by decide +kernel
theorem dX7_one_16 : decode cX7_one 16 = .ok (.iconst 0, 1) := by decide +kernel
theorem dX7_one_17 : decode cX7_one 17 = .ok (.iload_n 2, 1) := by decide +kernel
theorem dX7_one_18 : decode cX7_one 18 = .ok (.invokestatic 62, 3) := by decide +kernel
theorem dX7_one_21 : decode cX7_one 21 = .ok (.ifCond .ne 7, 3) := by decide +kernel
theorem dX7_one_24 : decode cX7_one 24 = .ok (.iconst 1, 1) := by decide +kernel
theorem dX7_one_25 : decode cX7_one 25 = .ok (.goto 4, 3) := by decide +kernel
theorem dX7_one_28 : decode cX7_one 28 = .ok (.iconst 0, 1) := by decide +kernel
theorem dX7_one_29 : decode cX7_one 29 = .ok (.putfield 203, 3) := by decide +kernel
theorem dX7_one_32 : decode cX7_one 32 = .ok (.aload_n 0, 1) := by decide +kernel
theorem dX7_one_33 : decode cX7_one 33 = .ok (.dup, 1) := by decide +kernel
theorem dX7_one_34 : decode cX7_one 34 = .ok (.getfield 197, 3) := by decide +kernel
theorem dX7_one_37 : decode cX7_one 37 = .ok (.aload_n 0, 1) := by decide +kernel
theorem dX7_one_38 : decode cX7_one 38 = .ok (.getfield 203, 3) := by decide +kernel
theorem dX7_one_41 : decode cX7_one 41 = .ok (.ifCond .eq 7, 3) := by decide +kernel
theorem dX7_one_44 : decode cX7_one 44 = .ok (.iconst 0, 1) := by decide +kernel
theorem dX7_one_45 : decode cX7_one 45 = .ok (.goto 4, 3) := by decide +kernel
theorem dX7_one_48 : decode cX7_one 48 = .ok (.iconst 1, 1) := by decide +kernel
theorem dX7_one_49 : decode cX7_one 49 = .ok (.iadd, 1) := by decide +kernel
theorem dX7_one_50 : decode cX7_one 50 = .ok (.putfield 197, 3) := by decide +kernel
theorem dX7_one_53 : decode cX7_one 53 = .ok (.iload_n 3, 1) := by decide +kernel
theorem dX7_one_54 : decode cX7_one 54 = .ok (.ireturn, 1) := by decide +kernel
theorem dX7_number_0 : decode cX7_number 0 = .ok (.aload_n 0, 1) := by decide +kernel
theorem dX7_number_1 : decode cX7_number 1 = .ok (.bipush 48, 2) := by decide +kernel
theorem dX7_number_3 : decode cX7_number 3 = .ok (.bipush 9, 2) := by decide +kernel
theorem dX7_number_5 : decode cX7_number 5 = .ok (.invokevirtual 206, 3) := by decide +kernel
theorem dX7_number_8 : decode cX7_number 8 = .ok (.istore_n 1, 1) := by decide +kernel
theorem dX7_number_9 : decode cX7_number 9 = .ok (.aload_n 0, 1) := by decide +kernel
theorem dX7_number_10 : decode cX7_number 10 = .ok (.getfield 203, 3) := by decide +kernel
theorem dX7_number_13 : decode cX7_number 13 = .ok (.ifCond .ne 65, 3) := by decide +kernel
theorem dX7_number_16 : decode cX7_number 16 = .ok (.iload_n 1, 1) := by decide +kernel
theorem dX7_number_17 : decode cX7_number 17 = .ok (.ifCond .le 61, 3) := by decide +kernel
theorem dX7_number_20 : decode cX7_number 20 = .ok (.aload_n 0, 1) := by decide +kernel
theorem dX7_number_21 : decode cX7_number 21 = .ok (.invokevirtual 200, 3) := by decide +kernel
theorem dX7_number_24 : decode cX7_number 24 = .ok (.bipush 48, 2) := by decide +kernel
theorem dX7_number_26 : decode cX7_number 26 = .ok (.bipush 57, 2) := by decide +kernel
theorem dX7_number_28 : decode cX7_number 28 = .ok (.invokestatic 62, 3) := by decide +kernel
theorem dX7_number_31 : decode cX7_number 31 = .ok (.ifCond .eq 47, 3) := by decide +kernel
theorem dX7_number_34 : decode cX7_number 34 = .ok (.bipush 10, 2) := by decide +kernel
theorem dX7_number_36 : decode cX7_number 36 = .ok (.iload_n 1, 1) := by decide +kernel
theorem dX7_number_37 : decode cX7_number 37 = .ok (.imul, 1) := by decide +kernel
theorem dX7_number_38 : decode cX7_number 38 = .ok (.aload_n 0, 1) := by decide +kernel
theorem dX7_number_39 : decode cX7_number 39 = .ok (.invokevirtual 200, 3) := by decide +kernel
theorem dX7_number_42 : decode cX7_number 42 = .ok (.iadd, 1) := by decide +kernel
theorem dX7_number_43 : decode cX7_number 43 = .ok (.bipush 48, 2) := by decide +kernel
theorem dX7_number_45 : decode cX7_number 45 = .ok (.isub, 1) := by decide +kernel
theorem dX7_number_46 : decode cX7_number 46 = .ok (.sipush 9999, 3) := by decide +kernel
theorem dX7_number_49 : decode cX7_number 49 = .ok (.if_icmp .gt 29, 3) := by decide +kernel
theorem dX7_number_52 : decode cX7_number 52 = .ok (.bipush 10, 2) := by decide +kernel
theorem dX7_number_54 : decode cX7_number 54 = .ok (.iload_n 1, 1) := by decide +kernel
theorem dX7_number_55 : decode cX7_number 55 = .ok (.imul, 1) := by decide +kernel
theorem dX7_number_56 : decode cX7_number 56 = .ok (.aload_n 0, 1) := by decide +kernel
theorem dX7_number_57 : decode cX7_number 57 = .ok (.invokevirtual 200, 3) := by decide +kernel
theorem dX7_number_60 : decode cX7_number 60 = .ok (.iadd, 1) := by decide +kernel
theorem dX7_number_61 : decode cX7_number 61 = .ok (.bipush 48, 2) := by decide +kernel
theorem dX7_number_63 : decode cX7_number 63 = .ok (.isub, 1) := by decide +kernel
theorem dX7_number_64 : decode cX7_number 64 = .ok (.istore_n 1, 1) := by decide +kernel
theorem dX7_number_65 : decode cX7_number 65 = .ok (.aload_n 0, 1) := by decide +kernel
theorem dX7_number_66 : decode cX7_number 66 = .ok (.dup, 1) := by decide +kernel
theorem dX7_number_67 : decode cX7_number 67 = .ok (.getfield 197, 3) := by decide +kernel
theorem dX7_number_70 : decode cX7_number 70 = .ok (.iconst 1, 1) := by decide +kernel
theorem dX7_number_71 : decode cX7_number 71 = .ok (.iadd, 1) := by decide +kernel
theorem dX7_number_72 : decode cX7_number 72 = .ok (.putfield 197, 3) := by decide +kernel
theorem dX7_number_75 : decode cX7_number 75 = .ok (.goto (-66), 3) := by decide +kernel
theorem dX7_number_78 : decode cX7_number 78 = .ok (.iload_n 1, 1) := by decide +kernel
theorem dX7_number_79 : decode cX7_number 79 = .ok (.ireturn, 1) := by decide +kernel
theorem dX7_readOne_0 : decode cX7_readOne 0 = .ok (.iconst 4, 1) := by decide +kernel
theorem dX7_readOne_1 : decode cX7_readOne 1 = .ok (.aload_n 0, 1) := by decide +kernel
theorem dX7_readOne_2 : decode cX7_readOne 2 = .ok (.getfield 209, 3) := by decide +kernel
theorem dX7_readOne_5 : decode cX7_readOne 5 = .ok (.imul, 1) := by decide +kernel
theorem dX7_readOne_6 : decode cX7_readOne 6 = .ok (.istore_n 1, 1) := by decide +kernel
theorem dX7_readOne_7 : decode cX7_readOne 7 = .ok (.aload_n 0, 1) := by decide +kernel
theorem dX7_readOne_8 : decode cX7_readOne 8 = .ok (.invokevirtual 200, 3) := by decide +kernel
theorem dX7_readOne_11 : decode cX7_readOne 11 = .ok (.istore_n 2, 1) := by decide +kernel
theorem dX7_readOne_12 : decode cX7_readOne 12 = .ok (.aload_n 0, 1) := by decide +kernel
theorem dX7_readOne_13 : decode cX7_readOne 13 = .ok (.getfield 51, 3) := by decide +kernel
theorem dX7_readOne_16 : decode cX7_readOne 16 = .ok (.iload_n 1, 1) := by decide +kernel
theorem dX7_readOne_17 : decode cX7_readOne 17 = .ok (.iload_n 2, 1) := by decide +kernel
theorem dX7_readOne_18 : decode cX7_readOne 18 = .ok (.iastore, 1) := by decide +kernel
theorem dX7_readOne_19 : decode cX7_readOne 19 = .ok (.aload_n 0, 1) := by decide +kernel
theorem dX7_readOne_20 : decode cX7_readOne 20 = .ok (.iload_n 2, 1) := by decide +kernel
theorem dX7_readOne_21 : decode cX7_readOne 21 = .ok (.bipush 43, 2) := by decide +kernel
theorem dX7_readOne_23 : decode cX7_readOne 23 = .ok (.if_icmp .eq 31, 3) := by decide +kernel
theorem dX7_readOne_26 : decode cX7_readOne 26 = .ok (.iload_n 2, 1) := by decide +kernel
theorem dX7_readOne_27 : decode cX7_readOne 27 = .ok (.bipush 45, 2) := by decide +kernel
theorem dX7_readOne_29 : decode cX7_readOne 29 = .ok (.if_icmp .eq 25, 3) := by decide +kernel
theorem dX7_readOne_32 : decode cX7_readOne 32 = .ok (.iload_n 2, 1) := by decide +kernel
theorem dX7_readOne_33 : decode cX7_readOne 33 = .ok (.bipush 103, 2) := by decide +kernel
theorem dX7_readOne_35 : decode cX7_readOne 35 = .ok (.if_icmp .eq 19, 3) := by decide +kernel
theorem dX7_readOne_38 : decode cX7_readOne 38 = .ok (.iload_n 2, 1) := by decide +kernel
theorem dX7_readOne_39 : decode cX7_readOne 39 = .ok (.bipush 112, 2) := by decide +kernel
theorem dX7_readOne_41 : decode cX7_readOne 41 = .ok (.if_icmp .eq 13, 3) := by decide +kernel
theorem dX7_readOne_44 : decode cX7_readOne 44 = .ok (.iload_n 2, 1) := by decide +kernel
theorem dX7_readOne_45 : decode cX7_readOne 45 = .ok (.bipush 100, 2) := by decide +kernel
theorem dX7_readOne_47 : decode cX7_readOne 47 = .ok (.if_icmp .eq 7, 3) := by decide +kernel
theorem dX7_readOne_50 : decode cX7_readOne 50 = .ok (.iconst 1, 1) := by decide +kernel
theorem dX7_readOne_51 : decode cX7_readOne 51 = .ok (.goto 4, 3) := by decide +kernel
theorem dX7_readOne_54 : decode cX7_readOne 54 = .ok (.iconst 0, 1) := by decide +kernel
theorem dX7_readOne_55 : decode cX7_readOne 55 = .ok (.putfield 203, 3) := by decide +kernel
theorem dX7_readOne_58 : decode cX7_readOne 58 = .ok (.aload_n 0, 1) := by decide +kernel
theorem dX7_readOne_59 : decode cX7_readOne 59 = .ok (.getfield 203, 3) := by decide +kernel
theorem dX7_readOne_62 : decode cX7_readOne 62 = .ok (.ifCond .eq 4, 3) := by decide +kernel
theorem dX7_readOne_65 : decode cX7_readOne 65 = .ok (.return_, 1) := by decide +kernel
theorem dX7_readOne_66 : decode cX7_readOne 66 = .ok (.aload_n 0, 1) := by decide +kernel
theorem dX7_readOne_67 : decode cX7_readOne 67 = .ok (.dup, 1) := by decide +kernel
theorem dX7_readOne_68 : decode cX7_readOne 68 = .ok (.getfield 197, 3) := by decide +kernel
theorem dX7_readOne_71 : decode cX7_readOne 71 = .ok (.iconst 1, 1) := by decide +kernel
theorem dX7_readOne_72 : decode cX7_readOne 72 = .ok (.iadd, 1) := by decide +kernel
theorem dX7_readOne_73 : decode cX7_readOne 73 = .ok (.putfield 197, 3) := by decide +kernel
theorem dX7_readOne_76 : decode cX7_readOne 76 = .ok (.aload_n 0, 1) := by decide +kernel
theorem dX7_readOne_77 : decode cX7_readOne 77 = .ok (.getfield 51, 3) := by decide +kernel
theorem dX7_readOne_80 : decode cX7_readOne 80 = .ok (.iload_n 1, 1) := by decide +kernel
theorem dX7_readOne_81 : decode cX7_readOne 81 = .ok (.iconst 1, 1) := by decide +kernel
theorem dX7_readOne_82 : decode cX7_readOne 82 = .ok (.iadd, 1) := by decide +kernel
theorem dX7_readOne_83 : decode cX7_readOne 83 = .ok (.iload_n 2, 1) := by decide +kernel
theorem dX7_readOne_84 : decode cX7_readOne 84 = .ok (.bipush 45, 2) := by decide +kernel
theorem dX7_readOne_86 : decode cX7_readOne 86 = .ok (.if_icmp .eq 9, 3) := by decide +kernel
theorem dX7_readOne_89 : decode cX7_readOne 89 = .ok (.iload_n 2, 1) := by decide +kernel
theorem dX7_readOne_90 : decode cX7_readOne 90 = .ok (.bipush 100, 2) := by decide +kernel
theorem dX7_readOne_92 : decode cX7_readOne 92 = .ok (.if_icmp .ne 7, 3) := by decide +kernel
theorem dX7_readOne_95 : decode cX7_readOne 95 = .ok (.iconst 0, 1) := by decide +kernel
theorem dX7_readOne_96 : decode cX7_readOne 96 = .ok (.goto 11, 3) := by decide +kernel
theorem dX7_readOne_99 : decode cX7_readOne 99 = .ok (.aload_n 0, 1) := by decide +kernel
theorem dX7_readOne_100 : decode cX7_readOne 100 = .ok (.bipush 65, 2) := by decide +kernel
theorem dX7_readOne_102 : decode cX7_readOne 102 = .ok (.bipush 9, 2) := by decide +kernel
theorem dX7_readOne_104 : decode cX7_readOne 104 = .ok (.invokevirtual 206, 3) := by decide +kernel
theorem dX7_readOne_107 : decode cX7_readOne 107 = .ok (.iastore, 1) := by decide +kernel
theorem dX7_readOne_108 : decode cX7_readOne 108 = .ok (.aload_n 0, 1) := by decide +kernel
theorem dX7_readOne_109 : decode cX7_readOne 109 = .ok (.getfield 51, 3) := by decide +kernel
theorem dX7_readOne_112 : decode cX7_readOne 112 = .ok (.iload_n 1, 1) := by decide +kernel
theorem dX7_readOne_113 : decode cX7_readOne 113 = .ok (.iconst 2, 1) := by decide +kernel
theorem dX7_readOne_114 : decode cX7_readOne 114 = .ok (.iadd, 1) := by decide +kernel
theorem dX7_readOne_115 : decode cX7_readOne 115 = .ok (.aload_n 0, 1) := by decide +kernel
theorem dX7_readOne_116 : decode cX7_readOne 116 = .ok (.getfield 203, 3) := by decide +kernel
theorem dX7_readOne_119 : decode cX7_readOne 119 = .ok (.ifCond .eq 7, 3) := by decide +kernel
theorem dX7_readOne_122 : decode cX7_readOne 122 = .ok (.iconst 0, 1) := by decide +kernel
theorem dX7_readOne_123 : decode cX7_readOne 123 = .ok (.goto 7, 3) := by decide +kernel
theorem dX7_readOne_126 : decode cX7_readOne 126 = .ok (.aload_n 0, 1) := by decide +kernel
theorem dX7_readOne_127 : decode cX7_readOne 127 = .ok (.invokevirtual 212, 3) := by decide +kernel
theorem dX7_readOne_130 : decode cX7_readOne 130 = .ok (.iastore, 1) := by decide +kernel
theorem dX7_readOne_131 : decode cX7_readOne 131 = .ok (.iload_n 2, 1) := by decide +kernel
theorem dX7_readOne_132 : decode cX7_readOne 132 = .ok (.bipush 43, 2) := by decide +kernel
theorem dX7_readOne_134 : decode cX7_readOne 134 = .ok (.if_icmp .eq 9, 3) := by decide +kernel
theorem dX7_readOne_137 : decode cX7_readOne 137 = .ok (.iload_n 2, 1) := by decide +kernel
theorem dX7_readOne_138 : decode cX7_readOne 138 = .ok (.bipush 45, 2) := by decide +kernel
theorem dX7_readOne_140 : decode cX7_readOne 140 = .ok (.if_icmp .ne 72, 3) := by decide +kernel
theorem dX7_readOne_143 : decode cX7_readOne 143 = .ok (.aload_n 0, 1) := by decide +kernel
theorem dX7_readOne_144 : decode cX7_readOne 144 = .ok (.aload_n 0, 1) := by decide +kernel
theorem dX7_readOne_145 : decode cX7_readOne 145 = .ok (.getfield 203, 3) := by decide +kernel
theorem dX7_readOne_148 : decode cX7_readOne 148 = .ok (.ifCond .ne 12, 3) := by decide +kernel
theorem dX7_readOne_151 : decode cX7_readOne 151 = .ok (.aload_n 0, 1) := by decide +kernel
theorem dX7_readOne_152 : decode cX7_readOne 152 = .ok (.invokevirtual 200, 3) := by decide +kernel
theorem dX7_readOne_155 : decode cX7_readOne 155 = .ok (.bipush 58, 2) := by decide +kernel
theorem dX7_readOne_157 : decode cX7_readOne 157 = .ok (.if_icmp .eq 7, 3) := by decide +kernel
theorem dX7_readOne_160 : decode cX7_readOne 160 = .ok (.iconst 1, 1) := by decide +kernel
theorem dX7_readOne_161 : decode cX7_readOne 161 = .ok (.goto 4, 3) := by decide +kernel
theorem dX7_readOne_164 : decode cX7_readOne 164 = .ok (.iconst 0, 1) := by decide +kernel
theorem dX7_readOne_165 : decode cX7_readOne 165 = .ok (.putfield 203, 3) := by decide +kernel
theorem dX7_readOne_168 : decode cX7_readOne 168 = .ok (.aload_n 0, 1) := by decide +kernel
theorem dX7_readOne_169 : decode cX7_readOne 169 = .ok (.dup, 1) := by decide +kernel
theorem dX7_readOne_170 : decode cX7_readOne 170 = .ok (.getfield 197, 3) := by decide +kernel
theorem dX7_readOne_173 : decode cX7_readOne 173 = .ok (.aload_n 0, 1) := by decide +kernel
theorem dX7_readOne_174 : decode cX7_readOne 174 = .ok (.getfield 203, 3) := by decide +kernel
theorem dX7_readOne_177 : decode cX7_readOne 177 = .ok (.ifCond .eq 7, 3) := by decide +kernel
theorem dX7_readOne_180 : decode cX7_readOne 180 = .ok (.iconst 0, 1) := by decide +kernel
theorem dX7_readOne_181 : decode cX7_readOne 181 = .ok (.goto 4, 3) := by decide +kernel
theorem dX7_readOne_184 : decode cX7_readOne 184 = .ok (.iconst 1, 1) := by decide +kernel
theorem dX7_readOne_185 : decode cX7_readOne 185 = .ok (.iadd, 1) := by decide +kernel
theorem dX7_readOne_186 : decode cX7_readOne 186 = .ok (.putfield 197, 3) := by decide +kernel
theorem dX7_readOne_189 : decode cX7_readOne 189 = .ok (.aload_n 0, 1) := by decide +kernel
theorem dX7_readOne_190 : decode cX7_readOne 190 = .ok (.getfield 51, 3) := by decide +kernel
theorem dX7_readOne_193 : decode cX7_readOne 193 = .ok (.iload_n 1, 1) := by decide +kernel
theorem dX7_readOne_194 : decode cX7_readOne 194 = .ok (.iconst 3, 1) := by decide +kernel
theorem dX7_readOne_195 : decode cX7_readOne 195 = .ok (.iadd, 1) := by decide +kernel
theorem dX7_readOne_196 : decode cX7_readOne 196 = .ok (.aload_n 0, 1) := by decide +kernel
theorem dX7_readOne_197 : decode cX7_readOne 197 = .ok (.getfield 203, 3) := by decide +kernel
theorem dX7_readOne_200 : decode cX7_readOne 200 = .ok (.ifCond .eq 7, 3) := by decide +kernel
theorem dX7_readOne_203 : decode cX7_readOne 203 = .ok (.iconst 0, 1) := by decide +kernel
theorem dX7_readOne_204 : decode cX7_readOne 204 = .ok (.goto 7, 3) := by decide +kernel
theorem dX7_readOne_207 : decode cX7_readOne 207 = .ok (.aload_n 0, 1) := by decide +kernel
theorem dX7_readOne_208 : decode cX7_readOne 208 = .ok (.invokevirtual 212, 3) := by decide +kernel
theorem dX7_readOne_211 : decode cX7_readOne 211 = .ok (.iastore, 1) := by decide +kernel
theorem dX7_readOne_212 : decode cX7_readOne 212 = .ok (.aload_n 0, 1) := by decide +kernel
theorem dX7_readOne_213 : decode cX7_readOne 213 = .ok (.dup, 1) := by decide +kernel
theorem dX7_readOne_214 : decode cX7_readOne 214 = .ok (.getfield 209, 3) := by decide +kernel
theorem dX7_readOne_217 : decode cX7_readOne 217 = .ok (.iconst 1, 1) := by decide +kernel
theorem dX7_readOne_218 : decode cX7_readOne 218 = .ok (.iadd, 1) := by decide +kernel
theorem dX7_readOne_219 : decode cX7_readOne 219 = .ok (.putfield 209, 3) := by decide +kernel
theorem dX7_readOne_222 : decode cX7_readOne 222 = .ok (.return_, 1) := by decide +kernel
theorem dX7_faultOf_0 : decode cX7_faultOf 0 = .ok (.aload_n 0, 1) := by decide +kernel
theorem dX7_faultOf_1 : decode cX7_faultOf 1 = .ok (.iconst 0, 1) := by decide +kernel
theorem dX7_faultOf_2 : decode cX7_faultOf 2 = .ok (.putfield 197, 3) := by decide +kernel
theorem dX7_faultOf_5 : decode cX7_faultOf 5 = .ok (.aload_n 0, 1) := by decide +kernel
theorem dX7_faultOf_6 : decode cX7_faultOf 6 = .ok (.iconst 0, 1) := by decide +kernel
theorem dX7_faultOf_7 : decode cX7_faultOf 7 = .ok (.putfield 209, 3) := by decide +kernel
theorem dX7_faultOf_10 : decode cX7_faultOf 10 = .ok (.aload_n 0, 1) := by decide +kernel
theorem dX7_faultOf_11 : decode cX7_faultOf 11 = .ok (.iconst 0, 1) := by decide +kernel
theorem dX7_faultOf_12 : decode cX7_faultOf 12 = .ok (.putfield 203, 3) := by decide +kernel
theorem dX7_faultOf_15 : decode cX7_faultOf 15 = .ok (.aload_n 0, 1) := by decide +kernel
theorem dX7_faultOf_16 : decode cX7_faultOf 16 = .ok (.invokevirtual 215, 3) := by decide +kernel
theorem dX7_faultOf_19 : decode cX7_faultOf 19 = .ok (.aload_n 0, 1) := by decide +kernel
theorem dX7_faultOf_20 : decode cX7_faultOf 20 = .ok (.getfield 203, 3) := by decide +kernel
theorem dX7_faultOf_23 : decode cX7_faultOf 23 = .ok (.ifCond .ne 56, 3) := by decide +kernel
theorem dX7_faultOf_26 : decode cX7_faultOf 26 = .ok (.aload_n 0, 1) := by decide +kernel
theorem dX7_faultOf_27 : decode cX7_faultOf 27 = .ok (.getfield 197, 3) := by decide +kernel
theorem dX7_faultOf_30 : decode cX7_faultOf 30 = .ok (.aload_n 0, 1) := by decide +kernel
theorem dX7_faultOf_31 : decode cX7_faultOf 31 = .ok (.getfield 182, 3) := by decide +kernel
theorem dX7_faultOf_34 : decode cX7_faultOf 34 = .ok (.if_icmp .ge 45, 3) := by decide +kernel
theorem dX7_faultOf_37 : decode cX7_faultOf 37 = .ok (.aload_n 0, 1) := by decide +kernel
theorem dX7_faultOf_38 : decode cX7_faultOf 38 = .ok (.aload_n 0, 1) := by decide +kernel
theorem dX7_faultOf_39 : decode cX7_faultOf 39 = .ok (.invokevirtual 200, 3) := by decide +kernel
theorem dX7_faultOf_42 : decode cX7_faultOf 42 = .ok (.bipush 59, 2) := by decide +kernel
theorem dX7_faultOf_44 : decode cX7_faultOf 44 = .ok (.if_icmp .eq 7, 3) := by decide +kernel
theorem dX7_faultOf_47 : decode cX7_faultOf 47 = .ok (.iconst 1, 1) := by decide +kernel
theorem dX7_faultOf_48 : decode cX7_faultOf 48 = .ok (.goto 4, 3) := by decide +kernel
theorem dX7_faultOf_51 : decode cX7_faultOf 51 = .ok (.iconst 0, 1) := by decide +kernel
theorem dX7_faultOf_52 : decode cX7_faultOf 52 = .ok (.putfield 203, 3) := by decide +kernel
theorem dX7_faultOf_55 : decode cX7_faultOf 55 = .ok (.aload_n 0, 1) := by decide +kernel
theorem dX7_faultOf_56 : decode cX7_faultOf 56 = .ok (.getfield 203, 3) := by decide +kernel
theorem dX7_faultOf_59 : decode cX7_faultOf 59 = .ok (.ifCond .ne (-40), 3) := by decide +kernel
theorem dX7_faultOf_62 : decode cX7_faultOf 62 = .ok (.aload_n 0, 1) := by decide +kernel
theorem dX7_faultOf_63 : decode cX7_faultOf 63 = .ok (.dup, 1) := by decide +kernel
theorem dX7_faultOf_64 : decode cX7_faultOf 64 = .ok (.getfield 197, 3) := by decide +kernel
theorem dX7_faultOf_67 : decode cX7_faultOf 67 = .ok (.iconst 1, 1) := by decide +kernel
theorem dX7_faultOf_68 : decode cX7_faultOf 68 = .ok (.iadd, 1) := by decide +kernel
theorem dX7_faultOf_69 : decode cX7_faultOf 69 = .ok (.putfield 197, 3) := by decide +kernel
theorem dX7_faultOf_72 : decode cX7_faultOf 72 = .ok (.aload_n 0, 1) := by decide +kernel
theorem dX7_faultOf_73 : decode cX7_faultOf 73 = .ok (.invokevirtual 215, 3) := by decide +kernel
theorem dX7_faultOf_76 : decode cX7_faultOf 76 = .ok (.goto (-57), 3) := by decide +kernel
theorem dX7_faultOf_79 : decode cX7_faultOf 79 = .ok (.aload_n 0, 1) := by decide +kernel
theorem dX7_faultOf_80 : decode cX7_faultOf 80 = .ok (.getfield 203, 3) := by decide +kernel
theorem dX7_faultOf_83 : decode cX7_faultOf 83 = .ok (.ifCond .eq 10, 3) := by decide +kernel
theorem dX7_faultOf_86 : decode cX7_faultOf 86 = .ok (.aload_n 0, 1) := by decide +kernel
theorem dX7_faultOf_87 : decode cX7_faultOf 87 = .ok (.getfield 197, 3) := by decide +kernel
theorem dX7_faultOf_90 : decode cX7_faultOf 90 = .ok (.goto 5, 3) := by decide +kernel
theorem dX7_faultOf_93 : decode cX7_faultOf 93 = .ok (.bipush (-6), 2) := by decide +kernel
theorem dX7_faultOf_95 : decode cX7_faultOf 95 = .ok (.ireturn, 1) := by decide +kernel
theorem dX7_put_0 : decode cX7_put 0 = .ok (.iconst 0, 1) := by decide +kernel
theorem dX7_put_1 : decode cX7_put 1 = .ok (.istore_n 3, 1) := by decide +kernel
theorem dX7_put_2 : decode cX7_put 2 = .ok (.lload_n 1, 1) := by decide +kernel
theorem dX7_put_3 : decode cX7_put 3 = .ok (.lstore 4, 2) := by decide +kernel
theorem dX7_put_5 : decode cX7_put 5 = .ok (.lload 4, 2) := by decide +kernel
theorem dX7_put_7 : decode cX7_put 7 = .ok (.ldc2_w 218, 3) := by decide +kernel
theorem dX7_put_10 : decode cX7_put 10 = .ok (.land, 1) := by decide +kernel
theorem dX7_put_11 : decode cX7_put 11 = .ok (.lconst 0, 1) := by decide +kernel
theorem dX7_put_12 : decode cX7_put 12 = .ok (.lcmp, 1) := by decide +kernel
theorem dX7_put_13 : decode cX7_put 13 = .ok (.ifCond .eq 36, 3) := by decide +kernel
theorem dX7_put_16 : decode cX7_put 16 = .ok (.lload 4, 2) := by decide +kernel
theorem dX7_put_18 : decode cX7_put 18 = .ok (.ldc2_w 218, 3) := by decide +kernel
theorem dX7_put_21 : decode cX7_put 21 = .ok (.land, 1) := by decide +kernel
theorem dX7_put_22 : decode cX7_put 22 = .ok (.l2i, 1) := by decide +kernel
theorem dX7_put_23 : decode cX7_put 23 = .ok (.bipush 33, 2) := by decide +kernel
theorem dX7_put_25 : decode cX7_put 25 = .ok (.bipush 126, 2) := by decide +kernel
theorem dX7_put_27 : decode cX7_put 27 = .ok (.invokestatic 62, 3) := by decide +kernel
theorem dX7_put_30 : decode cX7_put 30 = .ok (.ifCond .ne 6, 3) := by decide +kernel
theorem dX7_put_33 : decode cX7_put 33 = .ok (.bipush (-2), 2) := by decide +kernel
theorem dX7_put_35 : decode cX7_put 35 = .ok (.ireturn, 1) := by decide +kernel
theorem dX7_put_36 : decode cX7_put 36 = .ok (.iinc 3 1, 3) := by decide +kernel
theorem dX7_put_39 : decode cX7_put 39 = .ok (.lload 4, 2) := by decide +kernel
theorem dX7_put_41 : decode cX7_put 41 = .ok (.bipush 8, 2) := by decide +kernel
theorem dX7_put_43 : decode cX7_put 43 = .ok (.lushr, 1) := by decide +kernel
theorem dX7_put_44 : decode cX7_put 44 = .ok (.lstore 4, 2) := by decide +kernel
theorem dX7_put_46 : decode cX7_put 46 = .ok (.goto (-41), 3) := by decide +kernel
theorem dX7_put_49 : decode cX7_put 49 = .ok (.lload 4, 2) := by decide +kernel
theorem dX7_put_51 : decode cX7_put 51 = .ok (.lconst 0, 1) := by decide +kernel
theorem dX7_put_52 : decode cX7_put 52 = .ok (.lcmp, 1) := by decide +kernel
theorem dX7_put_53 : decode cX7_put 53 = .ok (.ifCond .ne 7, 3) := by decide +kernel
theorem dX7_put_56 : decode cX7_put 56 = .ok (.iload_n 3, 1) := by decide +kernel
theorem dX7_put_57 : decode cX7_put 57 = .ok (.ifCond .ne 6, 3) := by decide +kernel
theorem dX7_put_60 : decode cX7_put 60 = .ok (.bipush (-2), 2) := by decide +kernel
theorem dX7_put_62 : decode cX7_put 62 = .ok (.ireturn, 1) := by decide +kernel
theorem dX7_put_63 : decode cX7_put 63 = .ok (.aload_n 0, 1) := by decide +kernel
theorem dX7_put_64 : decode cX7_put 64 = .ok (.getfield 182, 3) := by decide +kernel
theorem dX7_put_67 : decode cX7_put 67 = .ok (.iload_n 3, 1) := by decide +kernel
theorem dX7_put_68 : decode cX7_put 68 = .ok (.iadd, 1) := by decide +kernel
theorem dX7_put_69 : decode cX7_put 69 = .ok (.bipush 80, 2) := by decide +kernel
theorem dX7_put_71 : decode cX7_put 71 = .ok (.if_icmp .le 6, 3) := by decide +kernel
theorem dX7_put_74 : decode cX7_put 74 = .ok (.bipush (-4), 2) := by decide +kernel
theorem dX7_put_76 : decode cX7_put 76 = .ok (.ireturn, 1) := by decide +kernel
theorem dX7_put_77 : decode cX7_put 77 = .ok (.lload_n 1, 1) := by decide +kernel
theorem dX7_put_78 : decode cX7_put 78 = .ok (.lstore 4, 2) := by decide +kernel
theorem dX7_put_80 : decode cX7_put 80 = .ok (.iload_n 3, 1) := by decide +kernel
theorem dX7_put_81 : decode cX7_put 81 = .ok (.iconst 1, 1) := by decide +kernel
theorem dX7_put_82 : decode cX7_put 82 = .ok (.isub, 1) := by decide +kernel
theorem dX7_put_83 : decode cX7_put 83 = .ok (.istore 6, 2) := by decide +kernel
theorem dX7_put_85 : decode cX7_put 85 = .ok (.iload 6, 2) := by decide +kernel
theorem dX7_put_87 : decode cX7_put 87 = .ok (.ifCond .lt 35, 3) := by decide +kernel
theorem dX7_put_90 : decode cX7_put 90 = .ok (.aload_n 0, 1) := by decide +kernel
theorem dX7_put_91 : decode cX7_put 91 = .ok (.getfield 42, 3) := by decide +kernel
theorem dX7_put_94 : decode cX7_put 94 = .ok (.aload_n 0, 1) := by decide +kernel
theorem dX7_put_95 : decode cX7_put 95 = .ok (.getfield 182, 3) := by decide +kernel
theorem dX7_put_98 : decode cX7_put 98 = .ok (.iload 6, 2) := by decide +kernel
theorem dX7_put_100 : decode cX7_put 100 = .ok (.iadd, 1) := by decide +kernel
theorem dX7_put_101 : decode cX7_put 101 = .ok (.lload 4, 2) := by decide +kernel
theorem dX7_put_103 : decode cX7_put 103 = .ok (.ldc2_w 218, 3) := by decide +kernel
theorem dX7_put_106 : decode cX7_put 106 = .ok (.land, 1) := by decide +kernel
theorem dX7_put_107 : decode cX7_put 107 = .ok (.l2i, 1) := by decide +kernel
theorem dX7_put_108 : decode cX7_put 108 = .ok (.iastore, 1) := by decide +kernel
theorem dX7_put_109 : decode cX7_put 109 = .ok (.lload 4, 2) := by decide +kernel
theorem dX7_put_111 : decode cX7_put 111 = .ok (.bipush 8, 2) := by decide +kernel
theorem dX7_put_113 : decode cX7_put 113 = .ok (.lushr, 1) := by decide +kernel
theorem dX7_put_114 : decode cX7_put 114 = .ok (.lstore 4, 2) := by decide +kernel
theorem dX7_put_116 : decode cX7_put 116 = .ok (.iinc 6 (-1), 3) := by decide +kernel
theorem dX7_put_119 : decode cX7_put 119 = .ok (.goto (-34), 3) := by decide +kernel
theorem dX7_put_122 : decode cX7_put 122 = .ok (.aload_n 0, 1) := by decide +kernel
theorem dX7_put_123 : decode cX7_put 123 = .ok (.dup, 1) := by decide +kernel
theorem dX7_put_124 : decode cX7_put 124 = .ok (.getfield 182, 3) := by decide +kernel
theorem dX7_put_127 : decode cX7_put 127 = .ok (.iload_n 3, 1) := by decide +kernel
theorem dX7_put_128 : decode cX7_put 128 = .ok (.iadd, 1) := by decide +kernel
theorem dX7_put_129 : decode cX7_put 129 = .ok (.putfield 182, 3) := by decide +kernel
theorem dX7_put_132 : decode cX7_put 132 = .ok (.aload_n 0, 1) := by decide +kernel
theorem dX7_put_133 : decode cX7_put 133 = .ok (.getfield 182, 3) := by decide +kernel
theorem dX7_put_136 : decode cX7_put 136 = .ok (.ireturn, 1) := by decide +kernel
theorem dX7_wipe_0 : decode cX7_wipe 0 = .ok (.aload_n 0, 1) := by decide +kernel
theorem dX7_wipe_1 : decode cX7_wipe 1 = .ok (.getfield 182, 3) := by decide +kernel
theorem dX7_wipe_4 : decode cX7_wipe 4 = .ok (.istore_n 1, 1) := by decide +kernel
theorem dX7_wipe_5 : decode cX7_wipe 5 = .ok (.aload_n 0, 1) := by decide +kernel
theorem dX7_wipe_6 : decode cX7_wipe 6 = .ok (.iconst 0, 1) := by decide +kernel
theorem dX7_wipe_7 : decode cX7_wipe 7 = .ok (.putfield 182, 3) := by decide +kernel
theorem dX7_wipe_10 : decode cX7_wipe 10 = .ok (.iload_n 1, 1) := by decide +kernel
theorem dX7_wipe_11 : decode cX7_wipe 11 = .ok (.ireturn, 1) := by decide +kernel
theorem dX7_fault_0 : decode cX7_fault 0 = .ok (.aload_n 0, 1) := by decide +kernel
theorem dX7_fault_1 : decode cX7_fault 1 = .ok (.invokevirtual 220, 3) := by decide +kernel
theorem dX7_fault_4 : decode cX7_fault 4 = .ok (.ireturn, 1) := by decide +kernel
theorem dX7_carry_0 : decode cX7_carry 0 = .ok (.aload_n 0, 1) := by decide +kernel
theorem dX7_carry_1 : decode cX7_carry 1 = .ok (.getfield 51, 3) := by decide +kernel
theorem dX7_carry_4 : decode cX7_carry 4 = .ok (.iload_n 1, 1) := by decide +kernel
theorem dX7_carry_5 : decode cX7_carry 5 = .ok (.iconst 1, 1) := by decide +kernel
theorem dX7_carry_6 : decode cX7_carry 6 = .ok (.iadd, 1) := by decide +kernel
theorem dX7_carry_7 : decode cX7_carry 7 = .ok (.iaload, 1) := by decide +kernel
theorem dX7_carry_8 : decode cX7_carry 8 = .ok (.istore_n 2, 1) := by decide +kernel
theorem dX7_carry_9 : decode cX7_carry 9 = .ok (.aload_n 0, 1) := by decide +kernel
theorem dX7_carry_10 : decode cX7_carry 10 = .ok (.getfield 51, 3) := by decide +kernel
theorem dX7_carry_13 : decode cX7_carry 13 = .ok (.iload_n 1, 1) := by decide +kernel
theorem dX7_carry_14 : decode cX7_carry 14 = .ok (.iconst 2, 1) := by decide +kernel
theorem dX7_carry_15 : decode cX7_carry 15 = .ok (.iadd, 1) := by decide +kernel
theorem dX7_carry_16 : decode cX7_carry 16 = .ok (.iaload, 1) := by decide +kernel
theorem dX7_carry_17 : decode cX7_carry 17 = .ok (.istore_n 3, 1) := by decide +kernel
theorem dX7_carry_18 : decode cX7_carry 18 = .ok (.aload_n 0, 1) := by decide +kernel
theorem dX7_carry_19 : decode cX7_carry 19 = .ok (.getfield 51, 3) := by decide +kernel
theorem dX7_carry_22 : decode cX7_carry 22 = .ok (.iload_n 1, 1) := by decide +kernel
theorem dX7_carry_23 : decode cX7_carry 23 = .ok (.iaload, 1) := by decide +kernel
theorem dX7_carry_24 : decode cX7_carry 24 = .ok (.lookupswitch 87 #[(43, 44), (45, 59), (103, 73), (112, 80)], 44) := by decide +kernel
theorem dX7_carry_68 : decode cX7_carry 68 = .ok (.aload_n 0, 1) := by decide +kernel
theorem dX7_carry_69 : decode cX7_carry 69 = .ok (.iload_n 2, 1) := by decide +kernel
theorem dX7_carry_70 : decode cX7_carry 70 = .ok (.iload_n 3, 1) := by decide +kernel
theorem dX7_carry_71 : decode cX7_carry 71 = .ok (.aload_n 0, 1) := by decide +kernel
theorem dX7_carry_72 : decode cX7_carry 72 = .ok (.getfield 51, 3) := by decide +kernel
theorem dX7_carry_75 : decode cX7_carry 75 = .ok (.iload_n 1, 1) := by decide +kernel
theorem dX7_carry_76 : decode cX7_carry 76 = .ok (.iconst 3, 1) := by decide +kernel
theorem dX7_carry_77 : decode cX7_carry 77 = .ok (.iadd, 1) := by decide +kernel
theorem dX7_carry_78 : decode cX7_carry 78 = .ok (.iaload, 1) := by decide +kernel
theorem dX7_carry_79 : decode cX7_carry 79 = .ok (.invokevirtual 223, 3) := by decide +kernel
theorem dX7_carry_82 : decode cX7_carry 82 = .ok (.ireturn, 1) := by decide +kernel
theorem dX7_carry_83 : decode cX7_carry 83 = .ok (.aload_n 0, 1) := by decide +kernel
theorem dX7_carry_84 : decode cX7_carry 84 = .ok (.iload_n 3, 1) := by decide +kernel
theorem dX7_carry_85 : decode cX7_carry 85 = .ok (.aload_n 0, 1) := by decide +kernel
theorem dX7_carry_86 : decode cX7_carry 86 = .ok (.getfield 51, 3) := by decide +kernel
theorem dX7_carry_89 : decode cX7_carry 89 = .ok (.iload_n 1, 1) := by decide +kernel
theorem dX7_carry_90 : decode cX7_carry 90 = .ok (.iconst 3, 1) := by decide +kernel
theorem dX7_carry_91 : decode cX7_carry 91 = .ok (.iadd, 1) := by decide +kernel
theorem dX7_carry_92 : decode cX7_carry 92 = .ok (.iaload, 1) := by decide +kernel
theorem dX7_carry_93 : decode cX7_carry 93 = .ok (.invokevirtual 226, 3) := by decide +kernel
theorem dX7_carry_96 : decode cX7_carry 96 = .ok (.ireturn, 1) := by decide +kernel
theorem dX7_carry_97 : decode cX7_carry 97 = .ok (.aload_n 0, 1) := by decide +kernel
theorem dX7_carry_98 : decode cX7_carry 98 = .ok (.iload_n 2, 1) := by decide +kernel
theorem dX7_carry_99 : decode cX7_carry 99 = .ok (.iload_n 3, 1) := by decide +kernel
theorem dX7_carry_100 : decode cX7_carry 100 = .ok (.invokevirtual 229, 3) := by decide +kernel
theorem dX7_carry_103 : decode cX7_carry 103 = .ok (.ireturn, 1) := by decide +kernel
theorem dX7_carry_104 : decode cX7_carry 104 = .ok (.aload_n 0, 1) := by decide +kernel
theorem dX7_carry_105 : decode cX7_carry 105 = .ok (.iload_n 2, 1) := by decide +kernel
theorem dX7_carry_106 : decode cX7_carry 106 = .ok (.iload_n 3, 1) := by decide +kernel
theorem dX7_carry_107 : decode cX7_carry 107 = .ok (.invokevirtual 232, 3) := by decide +kernel
theorem dX7_carry_110 : decode cX7_carry 110 = .ok (.ireturn, 1) := by decide +kernel
theorem dX7_carry_111 : decode cX7_carry 111 = .ok (.aload_n 0, 1) := by decide +kernel
theorem dX7_carry_112 : decode cX7_carry 112 = .ok (.iload_n 3, 1) := by decide +kernel
theorem dX7_carry_113 : decode cX7_carry 113 = .ok (.invokevirtual 235, 3) := by decide +kernel
theorem dX7_carry_116 : decode cX7_carry 116 = .ok (.ireturn, 1) := by decide +kernel
theorem dX7_carryOut_0 : decode cX7_carryOut 0 = .ok (.aload_n 0, 1) := by decide +kernel
theorem dX7_carryOut_1 : decode cX7_carryOut 1 = .ok (.invokevirtual 220, 3) := by decide +kernel
theorem dX7_carryOut_4 : decode cX7_carryOut 4 = .ok (.bipush (-6), 2) := by decide +kernel
theorem dX7_carryOut_6 : decode cX7_carryOut 6 = .ok (.if_icmp .eq 6, 3) := by decide +kernel
theorem dX7_carryOut_9 : decode cX7_carryOut 9 = .ok (.bipush (-3), 2) := by decide +kernel
theorem dX7_carryOut_11 : decode cX7_carryOut 11 = .ok (.ireturn, 1) := by decide +kernel
theorem dX7_carryOut_12 : decode cX7_carryOut 12 = .ok (.aload_n 0, 1) := by decide +kernel
theorem dX7_carryOut_13 : decode cX7_carryOut 13 = .ok (.invokevirtual 73, 3) := by decide +kernel
theorem dX7_carryOut_16 : decode cX7_carryOut 16 = .ok (.aload_n 0, 1) := by decide +kernel
theorem dX7_carryOut_17 : decode cX7_carryOut 17 = .ok (.iconst 1, 1) := by decide +kernel
theorem dX7_carryOut_18 : decode cX7_carryOut 18 = .ok (.putfield 54, 3) := by decide +kernel
theorem dX7_carryOut_21 : decode cX7_carryOut 21 = .ok (.iconst 0, 1) := by decide +kernel
theorem dX7_carryOut_22 : decode cX7_carryOut 22 = .ok (.istore_n 1, 1) := by decide +kernel
theorem dX7_carryOut_23 : decode cX7_carryOut 23 = .ok (.iload_n 1, 1) := by decide +kernel
theorem dX7_carryOut_24 : decode cX7_carryOut 24 = .ok (.aload_n 0, 1) := by decide +kernel
theorem dX7_carryOut_25 : decode cX7_carryOut 25 = .ok (.getfield 209, 3) := by decide +kernel
theorem dX7_carryOut_28 : decode cX7_carryOut 28 = .ok (.if_icmp .ge 19, 3) := by decide +kernel
theorem dX7_carryOut_31 : decode cX7_carryOut 31 = .ok (.aload_n 0, 1) := by decide +kernel
theorem dX7_carryOut_32 : decode cX7_carryOut 32 = .ok (.iconst 4, 1) := by decide +kernel
theorem dX7_carryOut_33 : decode cX7_carryOut 33 = .ok (.iload_n 1, 1) := by decide +kernel
theorem dX7_carryOut_34 : decode cX7_carryOut 34 = .ok (.imul, 1) := by decide +kernel
theorem dX7_carryOut_35 : decode cX7_carryOut 35 = .ok (.invokevirtual 238, 3) := by decide +kernel
theorem dX7_carryOut_38 : decode cX7_carryOut 38 = .ok (.ifCond .lt 9, 3) := by decide +kernel
theorem dX7_carryOut_41 : decode cX7_carryOut 41 = .ok (.iinc 1 1, 3) := by decide +kernel
theorem dX7_carryOut_44 : decode cX7_carryOut 44 = .ok (.goto (-21), 3) := by decide +kernel
theorem dX7_carryOut_47 : decode cX7_carryOut 47 = .ok (.aload_n 0, 1) := by decide +kernel
theorem dX7_carryOut_48 : decode cX7_carryOut 48 = .ok (.iconst 0, 1) := by decide +kernel
theorem dX7_carryOut_49 : decode cX7_carryOut 49 = .ok (.putfield 54, 3) := by decide +kernel
theorem dX7_carryOut_52 : decode cX7_carryOut 52 = .ok (.aload_n 0, 1) := by decide +kernel
theorem dX7_carryOut_53 : decode cX7_carryOut 53 = .ok (.iconst 0, 1) := by decide +kernel
theorem dX7_carryOut_54 : decode cX7_carryOut 54 = .ok (.putfield 182, 3) := by decide +kernel
theorem dX7_carryOut_57 : decode cX7_carryOut 57 = .ok (.iload_n 1, 1) := by decide +kernel
theorem dX7_carryOut_58 : decode cX7_carryOut 58 = .ok (.ireturn, 1) := by decide +kernel
theorem dX7_undo_0 : decode cX7_undo 0 = .ok (.aload_n 0, 1) := by decide +kernel
theorem dX7_undo_1 : decode cX7_undo 1 = .ok (.getfield 58, 3) := by decide +kernel
theorem dX7_undo_4 : decode cX7_undo 4 = .ok (.ifCond .ne 6, 3) := by decide +kernel
theorem dX7_undo_7 : decode cX7_undo 7 = .ok (.bipush (-5), 2) := by decide +kernel
theorem dX7_undo_9 : decode cX7_undo 9 = .ok (.ireturn, 1) := by decide +kernel
theorem dX7_undo_10 : decode cX7_undo 10 = .ok (.aload_n 0, 1) := by decide +kernel
theorem dX7_undo_11 : decode cX7_undo 11 = .ok (.dup, 1) := by decide +kernel
theorem dX7_undo_12 : decode cX7_undo 12 = .ok (.getfield 58, 3) := by decide +kernel
theorem dX7_undo_15 : decode cX7_undo 15 = .ok (.iconst 1, 1) := by decide +kernel
theorem dX7_undo_16 : decode cX7_undo 16 = .ok (.isub, 1) := by decide +kernel
theorem dX7_undo_17 : decode cX7_undo 17 = .ok (.putfield 58, 3) := by decide +kernel
theorem dX7_undo_20 : decode cX7_undo 20 = .ok (.iconst 0, 1) := by decide +kernel
theorem dX7_undo_21 : decode cX7_undo 21 = .ok (.istore_n 1, 1) := by decide +kernel
theorem dX7_undo_22 : decode cX7_undo 22 = .ok (.iload_n 1, 1) := by decide +kernel
theorem dX7_undo_23 : decode cX7_undo 23 = .ok (.sipush 400, 3) := by decide +kernel
theorem dX7_undo_26 : decode cX7_undo 26 = .ok (.if_icmp .ge 30, 3) := by decide +kernel
theorem dX7_undo_29 : decode cX7_undo 29 = .ok (.aload_n 0, 1) := by decide +kernel
theorem dX7_undo_30 : decode cX7_undo 30 = .ok (.getfield 7, 3) := by decide +kernel
theorem dX7_undo_33 : decode cX7_undo 33 = .ok (.iload_n 1, 1) := by decide +kernel
theorem dX7_undo_34 : decode cX7_undo 34 = .ok (.aload_n 0, 1) := by decide +kernel
theorem dX7_undo_35 : decode cX7_undo 35 = .ok (.getfield 26, 3) := by decide +kernel
theorem dX7_undo_38 : decode cX7_undo 38 = .ok (.aload_n 0, 1) := by decide +kernel
theorem dX7_undo_39 : decode cX7_undo 39 = .ok (.getfield 58, 3) := by decide +kernel
theorem dX7_undo_42 : decode cX7_undo 42 = .ok (.sipush 400, 3) := by decide +kernel
theorem dX7_undo_45 : decode cX7_undo 45 = .ok (.imul, 1) := by decide +kernel
theorem dX7_undo_46 : decode cX7_undo 46 = .ok (.iload_n 1, 1) := by decide +kernel
theorem dX7_undo_47 : decode cX7_undo 47 = .ok (.iadd, 1) := by decide +kernel
theorem dX7_undo_48 : decode cX7_undo 48 = .ok (.iaload, 1) := by decide +kernel
theorem dX7_undo_49 : decode cX7_undo 49 = .ok (.iastore, 1) := by decide +kernel
theorem dX7_undo_50 : decode cX7_undo 50 = .ok (.iinc 1 1, 3) := by decide +kernel
theorem dX7_undo_53 : decode cX7_undo 53 = .ok (.goto (-31), 3) := by decide +kernel
theorem dX7_undo_56 : decode cX7_undo 56 = .ok (.iconst 0, 1) := by decide +kernel
theorem dX7_undo_57 : decode cX7_undo 57 = .ok (.istore_n 1, 1) := by decide +kernel
theorem dX7_undo_58 : decode cX7_undo 58 = .ok (.iload_n 1, 1) := by decide +kernel
theorem dX7_undo_59 : decode cX7_undo 59 = .ok (.bipush 10, 2) := by decide +kernel
theorem dX7_undo_61 : decode cX7_undo 61 = .ok (.if_icmp .ge 29, 3) := by decide +kernel
theorem dX7_undo_64 : decode cX7_undo 64 = .ok (.aload_n 0, 1) := by decide +kernel
theorem dX7_undo_65 : decode cX7_undo 65 = .ok (.getfield 13, 3) := by decide +kernel
theorem dX7_undo_68 : decode cX7_undo 68 = .ok (.iload_n 1, 1) := by decide +kernel
theorem dX7_undo_69 : decode cX7_undo 69 = .ok (.aload_n 0, 1) := by decide +kernel
theorem dX7_undo_70 : decode cX7_undo 70 = .ok (.getfield 29, 3) := by decide +kernel
theorem dX7_undo_73 : decode cX7_undo 73 = .ok (.aload_n 0, 1) := by decide +kernel
theorem dX7_undo_74 : decode cX7_undo 74 = .ok (.getfield 58, 3) := by decide +kernel
theorem dX7_undo_77 : decode cX7_undo 77 = .ok (.bipush 10, 2) := by decide +kernel
theorem dX7_undo_79 : decode cX7_undo 79 = .ok (.imul, 1) := by decide +kernel
theorem dX7_undo_80 : decode cX7_undo 80 = .ok (.iload_n 1, 1) := by decide +kernel
theorem dX7_undo_81 : decode cX7_undo 81 = .ok (.iadd, 1) := by decide +kernel
theorem dX7_undo_82 : decode cX7_undo 82 = .ok (.laload, 1) := by decide +kernel
theorem dX7_undo_83 : decode cX7_undo 83 = .ok (.lastore, 1) := by decide +kernel
theorem dX7_undo_84 : decode cX7_undo 84 = .ok (.iinc 1 1, 3) := by decide +kernel
theorem dX7_undo_87 : decode cX7_undo 87 = .ok (.goto (-29), 3) := by decide +kernel
theorem dX7_undo_90 : decode cX7_undo 90 = .ok (.aload_n 0, 1) := by decide +kernel
theorem dX7_undo_91 : decode cX7_undo 91 = .ok (.getfield 58, 3) := by decide +kernel
theorem dX7_undo_94 : decode cX7_undo 94 = .ok (.ireturn, 1) := by decide +kernel
theorem dX7_save_0 : decode cX7_save 0 = .ok (.iload_n 1, 1) := by decide +kernel
theorem dX7_save_1 : decode cX7_save 1 = .ok (.iconst 0, 1) := by decide +kernel
theorem dX7_save_2 : decode cX7_save 2 = .ok (.iconst 1, 1) := by decide +kernel
theorem dX7_save_3 : decode cX7_save 3 = .ok (.invokestatic 62, 3) := by decide +kernel
theorem dX7_save_6 : decode cX7_save 6 = .ok (.ifCond .ne 6, 3) := by decide +kernel
theorem dX7_save_9 : decode cX7_save 9 = .ok (.bipush (-2), 2) := by decide +kernel
theorem dX7_save_11 : decode cX7_save 11 = .ok (.ireturn, 1) := by decide +kernel
theorem dX7_save_12 : decode cX7_save 12 = .ok (.iconst 0, 1) := by decide +kernel
theorem dX7_save_13 : decode cX7_save 13 = .ok (.istore_n 2, 1) := by decide +kernel
theorem dX7_save_14 : decode cX7_save 14 = .ok (.iload_n 2, 1) := by decide +kernel
theorem dX7_save_15 : decode cX7_save 15 = .ok (.sipush 400, 3) := by decide +kernel
theorem dX7_save_18 : decode cX7_save 18 = .ok (.if_icmp .ge 27, 3) := by decide +kernel
theorem dX7_save_21 : decode cX7_save 21 = .ok (.aload_n 0, 1) := by decide +kernel
theorem dX7_save_22 : decode cX7_save 22 = .ok (.getfield 32, 3) := by decide +kernel
theorem dX7_save_25 : decode cX7_save 25 = .ok (.iload_n 1, 1) := by decide +kernel
theorem dX7_save_26 : decode cX7_save 26 = .ok (.sipush 400, 3) := by decide +kernel
theorem dX7_save_29 : decode cX7_save 29 = .ok (.imul, 1) := by decide +kernel
theorem dX7_save_30 : decode cX7_save 30 = .ok (.iload_n 2, 1) := by decide +kernel
theorem dX7_save_31 : decode cX7_save 31 = .ok (.iadd, 1) := by decide +kernel
theorem dX7_save_32 : decode cX7_save 32 = .ok (.aload_n 0, 1) := by decide +kernel
theorem dX7_save_33 : decode cX7_save 33 = .ok (.getfield 7, 3) := by decide +kernel
theorem dX7_save_36 : decode cX7_save 36 = .ok (.iload_n 2, 1) := by decide +kernel
theorem dX7_save_37 : decode cX7_save 37 = .ok (.iaload, 1) := by decide +kernel
theorem dX7_save_38 : decode cX7_save 38 = .ok (.iastore, 1) := by decide +kernel
theorem dX7_save_39 : decode cX7_save 39 = .ok (.iinc 2 1, 3) := by decide +kernel
theorem dX7_save_42 : decode cX7_save 42 = .ok (.goto (-28), 3) := by decide +kernel
theorem dX7_save_45 : decode cX7_save 45 = .ok (.iconst 0, 1) := by decide +kernel
theorem dX7_save_46 : decode cX7_save 46 = .ok (.istore_n 2, 1) := by decide +kernel
theorem dX7_save_47 : decode cX7_save 47 = .ok (.iload_n 2, 1) := by decide +kernel
theorem dX7_save_48 : decode cX7_save 48 = .ok (.bipush 10, 2) := by decide +kernel
theorem dX7_save_50 : decode cX7_save 50 = .ok (.if_icmp .ge 26, 3) := by decide +kernel
theorem dX7_save_53 : decode cX7_save 53 = .ok (.aload_n 0, 1) := by decide +kernel
theorem dX7_save_54 : decode cX7_save 54 = .ok (.getfield 35, 3) := by decide +kernel
theorem dX7_save_57 : decode cX7_save 57 = .ok (.iload_n 1, 1) := by decide +kernel
theorem dX7_save_58 : decode cX7_save 58 = .ok (.bipush 10, 2) := by decide +kernel
theorem dX7_save_60 : decode cX7_save 60 = .ok (.imul, 1) := by decide +kernel
theorem dX7_save_61 : decode cX7_save 61 = .ok (.iload_n 2, 1) := by decide +kernel
theorem dX7_save_62 : decode cX7_save 62 = .ok (.iadd, 1) := by decide +kernel
theorem dX7_save_63 : decode cX7_save 63 = .ok (.aload_n 0, 1) := by decide +kernel
theorem dX7_save_64 : decode cX7_save 64 = .ok (.getfield 13, 3) := by decide +kernel
theorem dX7_save_67 : decode cX7_save 67 = .ok (.iload_n 2, 1) := by decide +kernel
theorem dX7_save_68 : decode cX7_save 68 = .ok (.laload, 1) := by decide +kernel
theorem dX7_save_69 : decode cX7_save 69 = .ok (.lastore, 1) := by decide +kernel
theorem dX7_save_70 : decode cX7_save 70 = .ok (.iinc 2 1, 3) := by decide +kernel
theorem dX7_save_73 : decode cX7_save 73 = .ok (.goto (-26), 3) := by decide +kernel
theorem dX7_save_76 : decode cX7_save 76 = .ok (.aload_n 0, 1) := by decide +kernel
theorem dX7_save_77 : decode cX7_save 77 = .ok (.getfield 38, 3) := by decide +kernel
theorem dX7_save_80 : decode cX7_save 80 = .ok (.iload_n 1, 1) := by decide +kernel
theorem dX7_save_81 : decode cX7_save 81 = .ok (.iconst 1, 1) := by decide +kernel
theorem dX7_save_82 : decode cX7_save 82 = .ok (.bastore, 1) := by decide +kernel
theorem dX7_save_83 : decode cX7_save 83 = .ok (.aload_n 0, 1) := by decide +kernel
theorem dX7_save_84 : decode cX7_save 84 = .ok (.getfield 7, 3) := by decide +kernel
theorem dX7_save_87 : decode cX7_save 87 = .ok (.iconst 5, 1) := by decide +kernel
theorem dX7_save_88 : decode cX7_save 88 = .ok (.iaload, 1) := by decide +kernel
theorem dX7_save_89 : decode cX7_save 89 = .ok (.ireturn, 1) := by decide +kernel
theorem dX7_restore_0 : decode cX7_restore 0 = .ok (.iload_n 1, 1) := by decide +kernel
theorem dX7_restore_1 : decode cX7_restore 1 = .ok (.iconst 0, 1) := by decide +kernel
theorem dX7_restore_2 : decode cX7_restore 2 = .ok (.iconst 1, 1) := by decide +kernel
theorem dX7_restore_3 : decode cX7_restore 3 = .ok (.invokestatic 62, 3) := by decide +kernel
theorem dX7_restore_6 : decode cX7_restore 6 = .ok (.ifCond .ne 6, 3) := by decide +kernel
theorem dX7_restore_9 : decode cX7_restore 9 = .ok (.bipush (-2), 2) := by decide +kernel
theorem dX7_restore_11 : decode cX7_restore 11 = .ok (.ireturn, 1) := by decide +kernel
theorem dX7_restore_12 : decode cX7_restore 12 = .ok (.aload_n 0, 1) := by decide +kernel
theorem dX7_restore_13 : decode cX7_restore 13 = .ok (.getfield 38, 3) := by decide +kernel
theorem dX7_restore_16 : decode cX7_restore 16 = .ok (.iload_n 1, 1) := by decide +kernel
theorem dX7_restore_17 : decode cX7_restore 17 = .ok (.baload, 1) := by decide +kernel
theorem dX7_restore_18 : decode cX7_restore 18 = .ok (.ifCond .ne 6, 3) := by decide +kernel
theorem dX7_restore_21 : decode cX7_restore 21 = .ok (.bipush (-5), 2) := by decide +kernel
theorem dX7_restore_23 : decode cX7_restore 23 = .ok (.ireturn, 1) := by decide +kernel
theorem dX7_restore_24 : decode cX7_restore 24 = .ok (.aload_n 0, 1) := by decide +kernel
theorem dX7_restore_25 : decode cX7_restore 25 = .ok (.invokevirtual 73, 3) := by decide +kernel
theorem dX7_restore_28 : decode cX7_restore 28 = .ok (.iconst 0, 1) := by decide +kernel
theorem dX7_restore_29 : decode cX7_restore 29 = .ok (.istore_n 2, 1) := by decide +kernel
theorem dX7_restore_30 : decode cX7_restore 30 = .ok (.iload_n 2, 1) := by decide +kernel
theorem dX7_restore_31 : decode cX7_restore 31 = .ok (.sipush 400, 3) := by decide +kernel
theorem dX7_restore_34 : decode cX7_restore 34 = .ok (.if_icmp .ge 27, 3) := by decide +kernel
theorem dX7_restore_37 : decode cX7_restore 37 = .ok (.aload_n 0, 1) := by decide +kernel
theorem dX7_restore_38 : decode cX7_restore 38 = .ok (.getfield 7, 3) := by decide +kernel
theorem dX7_restore_41 : decode cX7_restore 41 = .ok (.iload_n 2, 1) := by decide +kernel
theorem dX7_restore_42 : decode cX7_restore 42 = .ok (.aload_n 0, 1) := by decide +kernel
theorem dX7_restore_43 : decode cX7_restore 43 = .ok (.getfield 32, 3) := by decide +kernel
theorem dX7_restore_46 : decode cX7_restore 46 = .ok (.iload_n 1, 1) := by decide +kernel
theorem dX7_restore_47 : decode cX7_restore 47 = .ok (.sipush 400, 3) := by decide +kernel
theorem dX7_restore_50 : decode cX7_restore 50 = .ok (.imul, 1) := by decide +kernel
theorem dX7_restore_51 : decode cX7_restore 51 = .ok (.iload_n 2, 1) := by decide +kernel
theorem dX7_restore_52 : decode cX7_restore 52 = .ok (.iadd, 1) := by decide +kernel
theorem dX7_restore_53 : decode cX7_restore 53 = .ok (.iaload, 1) := by decide +kernel
theorem dX7_restore_54 : decode cX7_restore 54 = .ok (.iastore, 1) := by decide +kernel
theorem dX7_restore_55 : decode cX7_restore 55 = .ok (.iinc 2 1, 3) := by decide +kernel
theorem dX7_restore_58 : decode cX7_restore 58 = .ok (.goto (-28), 3) := by decide +kernel
theorem dX7_restore_61 : decode cX7_restore 61 = .ok (.iconst 0, 1) := by decide +kernel
theorem dX7_restore_62 : decode cX7_restore 62 = .ok (.istore_n 2, 1) := by decide +kernel
theorem dX7_restore_63 : decode cX7_restore 63 = .ok (.iload_n 2, 1) := by decide +kernel
theorem dX7_restore_64 : decode cX7_restore 64 = .ok (.bipush 10, 2) := by decide +kernel
theorem dX7_restore_66 : decode cX7_restore 66 = .ok (.if_icmp .ge 26, 3) := by decide +kernel
theorem dX7_restore_69 : decode cX7_restore 69 = .ok (.aload_n 0, 1) := by decide +kernel
theorem dX7_restore_70 : decode cX7_restore 70 = .ok (.getfield 13, 3) := by decide +kernel
theorem dX7_restore_73 : decode cX7_restore 73 = .ok (.iload_n 2, 1) := by decide +kernel
theorem dX7_restore_74 : decode cX7_restore 74 = .ok (.aload_n 0, 1) := by decide +kernel
theorem dX7_restore_75 : decode cX7_restore 75 = .ok (.getfield 35, 3) := by decide +kernel
theorem dX7_restore_78 : decode cX7_restore 78 = .ok (.iload_n 1, 1) := by decide +kernel
theorem dX7_restore_79 : decode cX7_restore 79 = .ok (.bipush 10, 2) := by decide +kernel
