theorem dL_read_0 : decode cL_read 0 = .ok (.aload_n 1, 1) := by decide +kernel
theorem dL_read_1 : decode cL_read 1 = .ok (.iconst 0, 1) := by decide +kernel
theorem dL_read_2 : decode cL_read 2 = .ok (.aload_n 0, 1) := by decide +kernel
theorem dL_read_3 : decode cL_read 3 = .ok (.iconst 2, 1) := by decide +kernel
theorem dL_read_4 : decode cL_read 4 = .ok (.invokevirtual 8, 3) := by decide +kernel
theorem dL_read_7 : decode cL_read 7 = .ok (.iastore, 1) := by decide +kernel
theorem dL_read_8 : decode cL_read 8 = .ok (.iconst 0, 1) := by decide +kernel
theorem dL_read_9 : decode cL_read 9 = .ok (.istore_n 3, 1) := by decide +kernel
theorem dL_read_10 : decode cL_read 10 = .ok (.iload_n 3, 1) := by decide +kernel
theorem dL_read_11 : decode cL_read 11 = .ok (.aload_n 1, 1) := by decide +kernel
theorem dL_read_12 : decode cL_read 12 = .ok (.iconst 0, 1) := by decide +kernel
theorem dL_read_13 : decode cL_read 13 = .ok (.iaload, 1) := by decide +kernel
theorem dL_read_14 : decode cL_read 14 = .ok (.if_icmp .ge 48, 3) := by decide +kernel
theorem dL_read_17 : decode cL_read 17 = .ok (.aload_n 1, 1) := by decide +kernel
theorem dL_read_18 : decode cL_read 18 = .ok (.iconst 1, 1) := by decide +kernel
theorem dL_read_19 : decode cL_read 19 = .ok (.iload_n 3, 1) := by decide +kernel
theorem dL_read_20 : decode cL_read 20 = .ok (.iadd, 1) := by decide +kernel
theorem dL_read_21 : decode cL_read 21 = .ok (.bipush 16, 2) := by decide +kernel
theorem dL_read_23 : decode cL_read 23 = .ok (.aload_n 0, 1) := by decide +kernel
theorem dL_read_24 : decode cL_read 24 = .ok (.iload_n 3, 1) := by decide +kernel
theorem dL_read_25 : decode cL_read 25 = .ok (.iconst 1, 1) := by decide +kernel
theorem dL_read_26 : decode cL_read 26 = .ok (.invokevirtual 14, 3) := by decide +kernel
theorem dL_read_29 : decode cL_read 29 = .ok (.imul, 1) := by decide +kernel
theorem dL_read_30 : decode cL_read 30 = .ok (.aload_n 0, 1) := by decide +kernel
theorem dL_read_31 : decode cL_read 31 = .ok (.iload_n 3, 1) := by decide +kernel
theorem dL_read_32 : decode cL_read 32 = .ok (.iconst 0, 1) := by decide +kernel
theorem dL_read_33 : decode cL_read 33 = .ok (.invokevirtual 14, 3) := by decide +kernel
theorem dL_read_36 : decode cL_read 36 = .ok (.iadd, 1) := by decide +kernel
theorem dL_read_37 : decode cL_read 37 = .ok (.iastore, 1) := by decide +kernel
theorem dL_read_38 : decode cL_read 38 = .ok (.aload_n 2, 1) := by decide +kernel
theorem dL_read_39 : decode cL_read 39 = .ok (.iconst 1, 1) := by decide +kernel
theorem dL_read_40 : decode cL_read 40 = .ok (.iload_n 3, 1) := by decide +kernel
theorem dL_read_41 : decode cL_read 41 = .ok (.iadd, 1) := by decide +kernel
theorem dL_read_42 : decode cL_read 42 = .ok (.aload_n 0, 1) := by decide +kernel
theorem dL_read_43 : decode cL_read 43 = .ok (.iload_n 3, 1) := by decide +kernel
theorem dL_read_44 : decode cL_read 44 = .ok (.iconst 1, 1) := by decide +kernel
theorem dL_read_45 : decode cL_read 45 = .ok (.invokevirtual 14, 3) := by decide +kernel
theorem dL_read_48 : decode cL_read 48 = .ok (.aload_n 0, 1) := by decide +kernel
theorem dL_read_49 : decode cL_read 49 = .ok (.iload_n 3, 1) := by decide +kernel
theorem dL_read_50 : decode cL_read 50 = .ok (.iconst 2, 1) := by decide +kernel
theorem dL_read_51 : decode cL_read 51 = .ok (.invokevirtual 14, 3) := by decide +kernel
theorem dL_read_54 : decode cL_read 54 = .ok (.iadd, 1) := by decide +kernel
theorem dL_read_55 : decode cL_read 55 = .ok (.iastore, 1) := by decide +kernel
theorem dL_read_56 : decode cL_read 56 = .ok (.iinc 3 1, 3) := by decide +kernel
theorem dL_read_59 : decode cL_read 59 = .ok (.goto (-49), 3) := by decide +kernel
theorem dL_read_62 : decode cL_read 62 = .ok (.return_, 1) := by decide +kernel
theorem dL_add_0 : decode cL_add 0 = .ok (.iload_n 3, 1) := by decide +kernel
theorem dL_add_1 : decode cL_add 1 = .ok (.iload 4, 2) := by decide +kernel
theorem dL_add_3 : decode cL_add 3 = .ok (.if_icmp .ge 8, 3) := by decide +kernel
theorem dL_add_6 : decode cL_add 6 = .ok (.iload 5, 2) := by decide +kernel
theorem dL_add_8 : decode cL_add 8 = .ok (.ifCond .ge 5, 3) := by decide +kernel
theorem dL_add_11 : decode cL_add 11 = .ok (.iload_n 2, 1) := by decide +kernel
theorem dL_add_12 : decode cL_add 12 = .ok (.ireturn, 1) := by decide +kernel
theorem dL_add_13 : decode cL_add 13 = .ok (.iload_n 2, 1) := by decide +kernel
theorem dL_add_14 : decode cL_add 14 = .ok (.ifCond .le 28, 3) := by decide +kernel
theorem dL_add_17 : decode cL_add 17 = .ok (.aload_n 1, 1) := by decide +kernel
theorem dL_add_18 : decode cL_add 18 = .ok (.iload_n 2, 1) := by decide +kernel
theorem dL_add_19 : decode cL_add 19 = .ok (.iaload, 1) := by decide +kernel
theorem dL_add_20 : decode cL_add 20 = .ok (.iload_n 3, 1) := by decide +kernel
theorem dL_add_21 : decode cL_add 21 = .ok (.if_icmp .ne 21, 3) := by decide +kernel
theorem dL_add_24 : decode cL_add 24 = .ok (.aload_n 0, 1) := by decide +kernel
theorem dL_add_25 : decode cL_add 25 = .ok (.iload_n 2, 1) := by decide +kernel
theorem dL_add_26 : decode cL_add 26 = .ok (.iaload, 1) := by decide +kernel
theorem dL_add_27 : decode cL_add 27 = .ok (.bipush 16, 2) := by decide +kernel
theorem dL_add_29 : decode cL_add 29 = .ok (.irem, 1) := by decide +kernel
theorem dL_add_30 : decode cL_add 30 = .ok (.iload 5, 2) := by decide +kernel
theorem dL_add_32 : decode cL_add 32 = .ok (.if_icmp .ne 10, 3) := by decide +kernel
theorem dL_add_35 : decode cL_add 35 = .ok (.aload_n 1, 1) := by decide +kernel
theorem dL_add_36 : decode cL_add 36 = .ok (.iload_n 2, 1) := by decide +kernel
theorem dL_add_37 : decode cL_add 37 = .ok (.iload 4, 2) := by decide +kernel
theorem dL_add_39 : decode cL_add 39 = .ok (.iastore, 1) := by decide +kernel
theorem dL_add_40 : decode cL_add 40 = .ok (.iload_n 2, 1) := by decide +kernel
theorem dL_add_41 : decode cL_add 41 = .ok (.ireturn, 1) := by decide +kernel
theorem dL_add_42 : decode cL_add 42 = .ok (.aload_n 0, 1) := by decide +kernel
theorem dL_add_43 : decode cL_add 43 = .ok (.iload_n 2, 1) := by decide +kernel
theorem dL_add_44 : decode cL_add 44 = .ok (.iconst 1, 1) := by decide +kernel
theorem dL_add_45 : decode cL_add 45 = .ok (.iadd, 1) := by decide +kernel
theorem dL_add_46 : decode cL_add 46 = .ok (.bipush 16, 2) := by decide +kernel
theorem dL_add_48 : decode cL_add 48 = .ok (.iload_n 3, 1) := by decide +kernel
theorem dL_add_49 : decode cL_add 49 = .ok (.imul, 1) := by decide +kernel
theorem dL_add_50 : decode cL_add 50 = .ok (.iload 5, 2) := by decide +kernel
theorem dL_add_52 : decode cL_add 52 = .ok (.iadd, 1) := by decide +kernel
theorem dL_add_53 : decode cL_add 53 = .ok (.iastore, 1) := by decide +kernel
theorem dL_add_54 : decode cL_add 54 = .ok (.aload_n 1, 1) := by decide +kernel
theorem dL_add_55 : decode cL_add 55 = .ok (.iload_n 2, 1) := by decide +kernel
theorem dL_add_56 : decode cL_add 56 = .ok (.iconst 1, 1) := by decide +kernel
theorem dL_add_57 : decode cL_add 57 = .ok (.iadd, 1) := by decide +kernel
theorem dL_add_58 : decode cL_add 58 = .ok (.iload 4, 2) := by decide +kernel
theorem dL_add_60 : decode cL_add 60 = .ok (.iastore, 1) := by decide +kernel
theorem dL_add_61 : decode cL_add 61 = .ok (.iload_n 2, 1) := by decide +kernel
theorem dL_add_62 : decode cL_add 62 = .ok (.iconst 1, 1) := by decide +kernel
theorem dL_add_63 : decode cL_add 63 = .ok (.iadd, 1) := by decide +kernel
theorem dL_add_64 : decode cL_add 64 = .ok (.ireturn, 1) := by decide +kernel
theorem dL_lay_0 : decode cL_lay 0 = .ok (.iconst 0, 1) := by decide +kernel
theorem dL_lay_1 : decode cL_lay 1 = .ok (.istore 7, 2) := by decide +kernel
theorem dL_lay_3 : decode cL_lay 3 = .ok (.iconst 0, 1) := by decide +kernel
theorem dL_lay_4 : decode cL_lay 4 = .ok (.istore 8, 2) := by decide +kernel
theorem dL_lay_6 : decode cL_lay 6 = .ok (.iconst 0, 1) := by decide +kernel
theorem dL_lay_7 : decode cL_lay 7 = .ok (.istore 9, 2) := by decide +kernel
theorem dL_lay_9 : decode cL_lay 9 = .ok (.iload 9, 2) := by decide +kernel
theorem dL_lay_11 : decode cL_lay 11 = .ok (.aload_n 0, 1) := by decide +kernel
theorem dL_lay_12 : decode cL_lay 12 = .ok (.iconst 0, 1) := by decide +kernel
theorem dL_lay_13 : decode cL_lay 13 = .ok (.iaload, 1) := by decide +kernel
theorem dL_lay_14 : decode cL_lay 14 = .ok (.if_icmp .ge 145, 3) := by decide +kernel
theorem dL_lay_17 : decode cL_lay 17 = .ok (.aload_n 0, 1) := by decide +kernel
theorem dL_lay_18 : decode cL_lay 18 = .ok (.iload 9, 2) := by decide +kernel
theorem dL_lay_20 : decode cL_lay 20 = .ok (.invokestatic 18, 3) := by decide +kernel
theorem dL_lay_23 : decode cL_lay 23 = .ok (.istore 10, 2) := by decide +kernel
theorem dL_lay_25 : decode cL_lay 25 = .ok (.aload_n 1, 1) := by decide +kernel
theorem dL_lay_26 : decode cL_lay 26 = .ok (.iconst 1, 1) := by decide +kernel
theorem dL_lay_27 : decode cL_lay 27 = .ok (.iload 9, 2) := by decide +kernel
theorem dL_lay_29 : decode cL_lay 29 = .ok (.iadd, 1) := by decide +kernel
theorem dL_lay_30 : decode cL_lay 30 = .ok (.iaload, 1) := by decide +kernel
theorem dL_lay_31 : decode cL_lay 31 = .ok (.istore 11, 2) := by decide +kernel
theorem dL_lay_33 : decode cL_lay 33 = .ok (.iload 8, 2) := by decide +kernel
theorem dL_lay_35 : decode cL_lay 35 = .ok (.ifCond .ne 27, 3) := by decide +kernel
theorem dL_lay_38 : decode cL_lay 38 = .ok (.iload 10, 2) := by decide +kernel
theorem dL_lay_40 : decode cL_lay 40 = .ok (.iload_n 2, 1) := by decide +kernel
theorem dL_lay_41 : decode cL_lay 41 = .ok (.if_icmp .lt 21, 3) := by decide +kernel
theorem dL_lay_44 : decode cL_lay 44 = .ok (.aload 5, 2) := by decide +kernel
theorem dL_lay_46 : decode cL_lay 46 = .ok (.aload 6, 2) := by decide +kernel
theorem dL_lay_48 : decode cL_lay 48 = .ok (.iload 7, 2) := by decide +kernel
theorem dL_lay_50 : decode cL_lay 50 = .ok (.iload_n 2, 1) := by decide +kernel
theorem dL_lay_51 : decode cL_lay 51 = .ok (.iload_n 3, 1) := by decide +kernel
theorem dL_lay_52 : decode cL_lay 52 = .ok (.iload 4, 2) := by decide +kernel
theorem dL_lay_54 : decode cL_lay 54 = .ok (.invokestatic 24, 3) := by decide +kernel
theorem dL_lay_57 : decode cL_lay 57 = .ok (.istore 7, 2) := by decide +kernel
theorem dL_lay_59 : decode cL_lay 59 = .ok (.iconst 1, 1) := by decide +kernel
theorem dL_lay_60 : decode cL_lay 60 = .ok (.istore 8, 2) := by decide +kernel
theorem dL_lay_62 : decode cL_lay 62 = .ok (.aload 5, 2) := by decide +kernel
theorem dL_lay_64 : decode cL_lay 64 = .ok (.aload 6, 2) := by decide +kernel
theorem dL_lay_66 : decode cL_lay 66 = .ok (.iload 7, 2) := by decide +kernel
theorem dL_lay_68 : decode cL_lay 68 = .ok (.iload 10, 2) := by decide +kernel
theorem dL_lay_70 : decode cL_lay 70 = .ok (.iload 11, 2) := by decide +kernel
theorem dL_lay_72 : decode cL_lay 72 = .ok (.iload_n 2, 1) := by decide +kernel
theorem dL_lay_73 : decode cL_lay 73 = .ok (.if_icmp .ge 8, 3) := by decide +kernel
theorem dL_lay_76 : decode cL_lay 76 = .ok (.iload 11, 2) := by decide +kernel
theorem dL_lay_78 : decode cL_lay 78 = .ok (.goto 4, 3) := by decide +kernel
theorem dL_lay_81 : decode cL_lay 81 = .ok (.iload_n 2, 1) := by decide +kernel
theorem dL_lay_82 : decode cL_lay 82 = .ok (.aload_n 0, 1) := by decide +kernel
theorem dL_lay_83 : decode cL_lay 83 = .ok (.iload 9, 2) := by decide +kernel
theorem dL_lay_85 : decode cL_lay 85 = .ok (.invokestatic 28, 3) := by decide +kernel
theorem dL_lay_88 : decode cL_lay 88 = .ok (.invokestatic 24, 3) := by decide +kernel
theorem dL_lay_91 : decode cL_lay 91 = .ok (.istore 7, 2) := by decide +kernel
theorem dL_lay_93 : decode cL_lay 93 = .ok (.iload 8, 2) := by decide +kernel
theorem dL_lay_95 : decode cL_lay 95 = .ok (.ifCond .ne 27, 3) := by decide +kernel
theorem dL_lay_98 : decode cL_lay 98 = .ok (.iload 11, 2) := by decide +kernel
theorem dL_lay_100 : decode cL_lay 100 = .ok (.iload_n 2, 1) := by decide +kernel
theorem dL_lay_101 : decode cL_lay 101 = .ok (.if_icmp .le 21, 3) := by decide +kernel
theorem dL_lay_104 : decode cL_lay 104 = .ok (.aload 5, 2) := by decide +kernel
theorem dL_lay_106 : decode cL_lay 106 = .ok (.aload 6, 2) := by decide +kernel
theorem dL_lay_108 : decode cL_lay 108 = .ok (.iload 7, 2) := by decide +kernel
theorem dL_lay_110 : decode cL_lay 110 = .ok (.iload_n 2, 1) := by decide +kernel
theorem dL_lay_111 : decode cL_lay 111 = .ok (.iload_n 3, 1) := by decide +kernel
theorem dL_lay_112 : decode cL_lay 112 = .ok (.iload 4, 2) := by decide +kernel
theorem dL_lay_114 : decode cL_lay 114 = .ok (.invokestatic 24, 3) := by decide +kernel
theorem dL_lay_117 : decode cL_lay 117 = .ok (.istore 7, 2) := by decide +kernel
theorem dL_lay_119 : decode cL_lay 119 = .ok (.iconst 1, 1) := by decide +kernel
theorem dL_lay_120 : decode cL_lay 120 = .ok (.istore 8, 2) := by decide +kernel
theorem dL_lay_122 : decode cL_lay 122 = .ok (.aload 5, 2) := by decide +kernel
theorem dL_lay_124 : decode cL_lay 124 = .ok (.aload 6, 2) := by decide +kernel
theorem dL_lay_126 : decode cL_lay 126 = .ok (.iload 7, 2) := by decide +kernel
theorem dL_lay_128 : decode cL_lay 128 = .ok (.iload 10, 2) := by decide +kernel
theorem dL_lay_130 : decode cL_lay 130 = .ok (.iload_n 3, 1) := by decide +kernel
theorem dL_lay_131 : decode cL_lay 131 = .ok (.if_icmp .le 8, 3) := by decide +kernel
theorem dL_lay_134 : decode cL_lay 134 = .ok (.iload 10, 2) := by decide +kernel
theorem dL_lay_136 : decode cL_lay 136 = .ok (.goto 4, 3) := by decide +kernel
theorem dL_lay_139 : decode cL_lay 139 = .ok (.iload_n 3, 1) := by decide +kernel
theorem dL_lay_140 : decode cL_lay 140 = .ok (.iload 11, 2) := by decide +kernel
theorem dL_lay_142 : decode cL_lay 142 = .ok (.aload_n 0, 1) := by decide +kernel
theorem dL_lay_143 : decode cL_lay 143 = .ok (.iload 9, 2) := by decide +kernel
theorem dL_lay_145 : decode cL_lay 145 = .ok (.invokestatic 28, 3) := by decide +kernel
theorem dL_lay_148 : decode cL_lay 148 = .ok (.invokestatic 24, 3) := by decide +kernel
theorem dL_lay_151 : decode cL_lay 151 = .ok (.istore 7, 2) := by decide +kernel
theorem dL_lay_153 : decode cL_lay 153 = .ok (.iinc 9 1, 3) := by decide +kernel
theorem dL_lay_156 : decode cL_lay 156 = .ok (.goto (-147), 3) := by decide +kernel
theorem dL_lay_159 : decode cL_lay 159 = .ok (.iload 8, 2) := by decide +kernel
theorem dL_lay_161 : decode cL_lay 161 = .ok (.ifCond .eq 8, 3) := by decide +kernel
theorem dL_lay_164 : decode cL_lay 164 = .ok (.iload 7, 2) := by decide +kernel
theorem dL_lay_166 : decode cL_lay 166 = .ok (.goto 16, 3) := by decide +kernel
theorem dL_lay_169 : decode cL_lay 169 = .ok (.aload 5, 2) := by decide +kernel
theorem dL_lay_171 : decode cL_lay 171 = .ok (.aload 6, 2) := by decide +kernel
theorem dL_lay_173 : decode cL_lay 173 = .ok (.iload 7, 2) := by decide +kernel
theorem dL_lay_175 : decode cL_lay 175 = .ok (.iload_n 2, 1) := by decide +kernel
theorem dL_lay_176 : decode cL_lay 176 = .ok (.iload_n 3, 1) := by decide +kernel
theorem dL_lay_177 : decode cL_lay 177 = .ok (.iload 4, 2) := by decide +kernel
theorem dL_lay_179 : decode cL_lay 179 = .ok (.invokestatic 24, 3) := by decide +kernel
theorem dL_lay_182 : decode cL_lay 182 = .ok (.istore 7, 2) := by decide +kernel
theorem dL_lay_184 : decode cL_lay 184 = .ok (.aload 5, 2) := by decide +kernel
theorem dL_lay_186 : decode cL_lay 186 = .ok (.iconst 0, 1) := by decide +kernel
theorem dL_lay_187 : decode cL_lay 187 = .ok (.iload 7, 2) := by decide +kernel
theorem dL_lay_189 : decode cL_lay 189 = .ok (.iastore, 1) := by decide +kernel
theorem dL_lay_190 : decode cL_lay 190 = .ok (.return_, 1) := by decide +kernel
theorem dL_isRow_0 : decode cL_isRow 0 = .ok (.aload_n 0, 1) := by decide +kernel
theorem dL_isRow_1 : decode cL_isRow 1 = .ok (.iconst 2, 1) := by decide +kernel
theorem dL_isRow_2 : decode cL_isRow 2 = .ok (.invokevirtual 8, 3) := by decide +kernel
theorem dL_isRow_5 : decode cL_isRow 5 = .ok (.aload_n 1, 1) := by decide +kernel
theorem dL_isRow_6 : decode cL_isRow 6 = .ok (.iconst 0, 1) := by decide +kernel
theorem dL_isRow_7 : decode cL_isRow 7 = .ok (.iaload, 1) := by decide +kernel
theorem dL_isRow_8 : decode cL_isRow 8 = .ok (.if_icmp .eq 5, 3) := by decide +kernel
theorem dL_isRow_11 : decode cL_isRow 11 = .ok (.iconst 0, 1) := by decide +kernel
theorem dL_isRow_12 : decode cL_isRow 12 = .ok (.ireturn, 1) := by decide +kernel
theorem dL_isRow_13 : decode cL_isRow 13 = .ok (.iconst 0, 1) := by decide +kernel
theorem dL_isRow_14 : decode cL_isRow 14 = .ok (.istore_n 3, 1) := by decide +kernel
theorem dL_isRow_15 : decode cL_isRow 15 = .ok (.iload_n 3, 1) := by decide +kernel
theorem dL_isRow_16 : decode cL_isRow 16 = .ok (.aload_n 1, 1) := by decide +kernel
theorem dL_isRow_17 : decode cL_isRow 17 = .ok (.iconst 0, 1) := by decide +kernel
theorem dL_isRow_18 : decode cL_isRow 18 = .ok (.iaload, 1) := by decide +kernel
theorem dL_isRow_19 : decode cL_isRow 19 = .ok (.if_icmp .ge 60, 3) := by decide +kernel
theorem dL_isRow_22 : decode cL_isRow 22 = .ok (.aload_n 0, 1) := by decide +kernel
theorem dL_isRow_23 : decode cL_isRow 23 = .ok (.iload_n 3, 1) := by decide +kernel
theorem dL_isRow_24 : decode cL_isRow 24 = .ok (.iconst 0, 1) := by decide +kernel
theorem dL_isRow_25 : decode cL_isRow 25 = .ok (.invokevirtual 14, 3) := by decide +kernel
theorem dL_isRow_28 : decode cL_isRow 28 = .ok (.aload_n 1, 1) := by decide +kernel
theorem dL_isRow_29 : decode cL_isRow 29 = .ok (.iload_n 3, 1) := by decide +kernel
theorem dL_isRow_30 : decode cL_isRow 30 = .ok (.invokestatic 28, 3) := by decide +kernel
theorem dL_isRow_33 : decode cL_isRow 33 = .ok (.if_icmp .ne 38, 3) := by decide +kernel
theorem dL_isRow_36 : decode cL_isRow 36 = .ok (.aload_n 0, 1) := by decide +kernel
theorem dL_isRow_37 : decode cL_isRow 37 = .ok (.iload_n 3, 1) := by decide +kernel
theorem dL_isRow_38 : decode cL_isRow 38 = .ok (.iconst 1, 1) := by decide +kernel
theorem dL_isRow_39 : decode cL_isRow 39 = .ok (.invokevirtual 14, 3) := by decide +kernel
theorem dL_isRow_42 : decode cL_isRow 42 = .ok (.aload_n 1, 1) := by decide +kernel
theorem dL_isRow_43 : decode cL_isRow 43 = .ok (.iload_n 3, 1) := by decide +kernel
theorem dL_isRow_44 : decode cL_isRow 44 = .ok (.invokestatic 18, 3) := by decide +kernel
theorem dL_isRow_47 : decode cL_isRow 47 = .ok (.if_icmp .ne 24, 3) := by decide +kernel
theorem dL_isRow_50 : decode cL_isRow 50 = .ok (.aload_n 0, 1) := by decide +kernel
theorem dL_isRow_51 : decode cL_isRow 51 = .ok (.iload_n 3, 1) := by decide +kernel
theorem dL_isRow_52 : decode cL_isRow 52 = .ok (.iconst 1, 1) := by decide +kernel
theorem dL_isRow_53 : decode cL_isRow 53 = .ok (.invokevirtual 14, 3) := by decide +kernel
theorem dL_isRow_56 : decode cL_isRow 56 = .ok (.aload_n 0, 1) := by decide +kernel
theorem dL_isRow_57 : decode cL_isRow 57 = .ok (.iload_n 3, 1) := by decide +kernel
theorem dL_isRow_58 : decode cL_isRow 58 = .ok (.iconst 2, 1) := by decide +kernel
theorem dL_isRow_59 : decode cL_isRow 59 = .ok (.invokevirtual 14, 3) := by decide +kernel
theorem dL_isRow_62 : decode cL_isRow 62 = .ok (.iadd, 1) := by decide +kernel
theorem dL_isRow_63 : decode cL_isRow 63 = .ok (.aload_n 2, 1) := by decide +kernel
theorem dL_isRow_64 : decode cL_isRow 64 = .ok (.iconst 1, 1) := by decide +kernel
theorem dL_isRow_65 : decode cL_isRow 65 = .ok (.iload_n 3, 1) := by decide +kernel
theorem dL_isRow_66 : decode cL_isRow 66 = .ok (.iadd, 1) := by decide +kernel
theorem dL_isRow_67 : decode cL_isRow 67 = .ok (.iaload, 1) := by decide +kernel
theorem dL_isRow_68 : decode cL_isRow 68 = .ok (.if_icmp .eq 5, 3) := by decide +kernel
theorem dL_isRow_71 : decode cL_isRow 71 = .ok (.iconst 0, 1) := by decide +kernel
theorem dL_isRow_72 : decode cL_isRow 72 = .ok (.ireturn, 1) := by decide +kernel
theorem dL_isRow_73 : decode cL_isRow 73 = .ok (.iinc 3 1, 3) := by decide +kernel
theorem dL_isRow_76 : decode cL_isRow 76 = .ok (.goto (-61), 3) := by decide +kernel
theorem dL_isRow_79 : decode cL_isRow 79 = .ok (.iconst 1, 1) := by decide +kernel
theorem dL_isRow_80 : decode cL_isRow 80 = .ok (.ireturn, 1) := by decide +kernel
theorem dL_copy_0 : decode cL_copy 0 = .ok (.iconst 0, 1) := by decide +kernel
theorem dL_copy_1 : decode cL_copy 1 = .ok (.istore_n 2, 1) := by decide +kernel
theorem dL_copy_2 : decode cL_copy 2 = .ok (.iload_n 2, 1) := by decide +kernel
theorem dL_copy_3 : decode cL_copy 3 = .ok (.aload_n 0, 1) := by decide +kernel
theorem dL_copy_4 : decode cL_copy 4 = .ok (.arraylength, 1) := by decide +kernel
theorem dL_copy_5 : decode cL_copy 5 = .ok (.if_icmp .ge 15, 3) := by decide +kernel
theorem dL_copy_8 : decode cL_copy 8 = .ok (.aload_n 1, 1) := by decide +kernel
theorem dL_copy_9 : decode cL_copy 9 = .ok (.iload_n 2, 1) := by decide +kernel
theorem dL_copy_10 : decode cL_copy 10 = .ok (.aload_n 0, 1) := by decide +kernel
theorem dL_copy_11 : decode cL_copy 11 = .ok (.iload_n 2, 1) := by decide +kernel
theorem dL_copy_12 : decode cL_copy 12 = .ok (.iaload, 1) := by decide +kernel
theorem dL_copy_13 : decode cL_copy 13 = .ok (.iastore, 1) := by decide +kernel
theorem dL_copy_14 : decode cL_copy 14 = .ok (.iinc 2 1, 3) := by decide +kernel
theorem dL_copy_17 : decode cL_copy 17 = .ok (.goto (-15), 3) := by decide +kernel
theorem dL_copy_20 : decode cL_copy 20 = .ok (.return_, 1) := by decide +kernel
theorem dL_meters_0 : decode cL_meters 0 = .ok (.iconst 0, 1) := by decide +kernel
theorem dL_meters_1 : decode cL_meters 1 = .ok (.istore_n 3, 1) := by decide +kernel
theorem dL_meters_2 : decode cL_meters 2 = .ok (.iconst 0, 1) := by decide +kernel
theorem dL_meters_3 : decode cL_meters 3 = .ok (.istore 4, 2) := by decide +kernel
theorem dL_meters_5 : decode cL_meters 5 = .ok (.iload 4, 2) := by decide +kernel
theorem dL_meters_7 : decode cL_meters 7 = .ok (.aload_n 0, 1) := by decide +kernel
theorem dL_meters_8 : decode cL_meters 8 = .ok (.iconst 0, 1) := by decide +kernel
theorem dL_meters_9 : decode cL_meters 9 = .ok (.iaload, 1) := by decide +kernel
theorem dL_meters_10 : decode cL_meters 10 = .ok (.if_icmp .ge 39, 3) := by decide +kernel
theorem dL_meters_13 : decode cL_meters 13 = .ok (.iload_n 3, 1) := by decide +kernel
theorem dL_meters_14 : decode cL_meters 14 = .ok (.aload_n 0, 1) := by decide +kernel
theorem dL_meters_15 : decode cL_meters 15 = .ok (.iload 4, 2) := by decide +kernel
theorem dL_meters_17 : decode cL_meters 17 = .ok (.invokestatic 28, 3) := by decide +kernel
theorem dL_meters_20 : decode cL_meters 20 = .ok (.iload_n 2, 1) := by decide +kernel
theorem dL_meters_21 : decode cL_meters 21 = .ok (.if_icmp .ne 19, 3) := by decide +kernel
theorem dL_meters_24 : decode cL_meters 24 = .ok (.aload_n 1, 1) := by decide +kernel
theorem dL_meters_25 : decode cL_meters 25 = .ok (.iconst 1, 1) := by decide +kernel
theorem dL_meters_26 : decode cL_meters 26 = .ok (.iload 4, 2) := by decide +kernel
theorem dL_meters_28 : decode cL_meters 28 = .ok (.iadd, 1) := by decide +kernel
theorem dL_meters_29 : decode cL_meters 29 = .ok (.iaload, 1) := by decide +kernel
theorem dL_meters_30 : decode cL_meters 30 = .ok (.aload_n 0, 1) := by decide +kernel
theorem dL_meters_31 : decode cL_meters 31 = .ok (.iload 4, 2) := by decide +kernel
theorem dL_meters_33 : decode cL_meters 33 = .ok (.invokestatic 18, 3) := by decide +kernel
theorem dL_meters_36 : decode cL_meters 36 = .ok (.isub, 1) := by decide +kernel
theorem dL_meters_37 : decode cL_meters 37 = .ok (.goto 4, 3) := by decide +kernel
theorem dL_meters_40 : decode cL_meters 40 = .ok (.iconst 0, 1) := by decide +kernel
theorem dL_meters_41 : decode cL_meters 41 = .ok (.iadd, 1) := by decide +kernel
theorem dL_meters_42 : decode cL_meters 42 = .ok (.istore_n 3, 1) := by decide +kernel
theorem dL_meters_43 : decode cL_meters 43 = .ok (.iinc 4 1, 3) := by decide +kernel
theorem dL_meters_46 : decode cL_meters 46 = .ok (.goto (-41), 3) := by decide +kernel
theorem dL_meters_49 : decode cL_meters 49 = .ok (.iload_n 3, 1) := by decide +kernel
theorem dL_meters_50 : decode cL_meters 50 = .ok (.ireturn, 1) := by decide +kernel
theorem dL_many_0 : decode cL_many 0 = .ok (.iconst 0, 1) := by decide +kernel
theorem dL_many_1 : decode cL_many 1 = .ok (.istore_n 2, 1) := by decide +kernel
theorem dL_many_2 : decode cL_many 2 = .ok (.iconst 0, 1) := by decide +kernel
theorem dL_many_3 : decode cL_many 3 = .ok (.istore_n 3, 1) := by decide +kernel
theorem dL_many_4 : decode cL_many 4 = .ok (.iload_n 3, 1) := by decide +kernel
theorem dL_many_5 : decode cL_many 5 = .ok (.aload_n 0, 1) := by decide +kernel
theorem dL_many_6 : decode cL_many 6 = .ok (.iconst 0, 1) := by decide +kernel
theorem dL_many_7 : decode cL_many 7 = .ok (.iaload, 1) := by decide +kernel
theorem dL_many_8 : decode cL_many 8 = .ok (.if_icmp .ge 26, 3) := by decide +kernel
theorem dL_many_11 : decode cL_many 11 = .ok (.iload_n 2, 1) := by decide +kernel
theorem dL_many_12 : decode cL_many 12 = .ok (.aload_n 0, 1) := by decide +kernel
theorem dL_many_13 : decode cL_many 13 = .ok (.iload_n 3, 1) := by decide +kernel
theorem dL_many_14 : decode cL_many 14 = .ok (.invokestatic 28, 3) := by decide +kernel
theorem dL_many_17 : decode cL_many 17 = .ok (.iload_n 1, 1) := by decide +kernel
theorem dL_many_18 : decode cL_many 18 = .ok (.if_icmp .ne 7, 3) := by decide +kernel
theorem dL_many_21 : decode cL_many 21 = .ok (.iconst 1, 1) := by decide +kernel
theorem dL_many_22 : decode cL_many 22 = .ok (.goto 4, 3) := by decide +kernel
theorem dL_many_25 : decode cL_many 25 = .ok (.iconst 0, 1) := by decide +kernel
theorem dL_many_26 : decode cL_many 26 = .ok (.iadd, 1) := by decide +kernel
theorem dL_many_27 : decode cL_many 27 = .ok (.istore_n 2, 1) := by decide +kernel
theorem dL_many_28 : decode cL_many 28 = .ok (.iinc 3 1, 3) := by decide +kernel
theorem dL_many_31 : decode cL_many 31 = .ok (.goto (-27), 3) := by decide +kernel
theorem dL_many_34 : decode cL_many 34 = .ok (.iload_n 2, 1) := by decide +kernel
theorem dL_many_35 : decode cL_many 35 = .ok (.ireturn, 1) := by decide +kernel
theorem dL_within_0 : decode cL_within 0 = .ok (.iconst 0, 1) := by decide +kernel
theorem dL_within_1 : decode cL_within 1 = .ok (.istore 5, 2) := by decide +kernel
theorem dL_within_3 : decode cL_within 3 = .ok (.iconst 0, 1) := by decide +kernel
theorem dL_within_4 : decode cL_within 4 = .ok (.istore 6, 2) := by decide +kernel
theorem dL_within_6 : decode cL_within 6 = .ok (.iload 6, 2) := by decide +kernel
theorem dL_within_8 : decode cL_within 8 = .ok (.aload_n 0, 1) := by decide +kernel
theorem dL_within_9 : decode cL_within 9 = .ok (.iconst 0, 1) := by decide +kernel
theorem dL_within_10 : decode cL_within 10 = .ok (.iaload, 1) := by decide +kernel
theorem dL_within_11 : decode cL_within 11 = .ok (.if_icmp .ge 85, 3) := by decide +kernel
theorem dL_within_14 : decode cL_within 14 = .ok (.aload_n 0, 1) := by decide +kernel
theorem dL_within_15 : decode cL_within 15 = .ok (.iload 6, 2) := by decide +kernel
theorem dL_within_17 : decode cL_within 17 = .ok (.invokestatic 18, 3) := by decide +kernel
theorem dL_within_20 : decode cL_within 20 = .ok (.iload_n 2, 1) := by decide +kernel
theorem dL_within_21 : decode cL_within 21 = .ok (.if_icmp .le 12, 3) := by decide +kernel
theorem dL_within_24 : decode cL_within 24 = .ok (.aload_n 0, 1) := by decide +kernel
theorem dL_within_25 : decode cL_within 25 = .ok (.iload 6, 2) := by decide +kernel
theorem dL_within_27 : decode cL_within 27 = .ok (.invokestatic 18, 3) := by decide +kernel
theorem dL_within_30 : decode cL_within 30 = .ok (.goto 4, 3) := by decide +kernel
theorem dL_within_33 : decode cL_within 33 = .ok (.iload_n 2, 1) := by decide +kernel
theorem dL_within_34 : decode cL_within 34 = .ok (.istore 7, 2) := by decide +kernel
theorem dL_within_36 : decode cL_within 36 = .ok (.aload_n 1, 1) := by decide +kernel
theorem dL_within_37 : decode cL_within 37 = .ok (.iconst 1, 1) := by decide +kernel
theorem dL_within_38 : decode cL_within 38 = .ok (.iload 6, 2) := by decide +kernel
theorem dL_within_40 : decode cL_within 40 = .ok (.iadd, 1) := by decide +kernel
theorem dL_within_41 : decode cL_within 41 = .ok (.iaload, 1) := by decide +kernel
theorem dL_within_42 : decode cL_within 42 = .ok (.iload_n 3, 1) := by decide +kernel
theorem dL_within_43 : decode cL_within 43 = .ok (.if_icmp .ge 12, 3) := by decide +kernel
theorem dL_within_46 : decode cL_within 46 = .ok (.aload_n 1, 1) := by decide +kernel
theorem dL_within_47 : decode cL_within 47 = .ok (.iconst 1, 1) := by decide +kernel
theorem dL_within_48 : decode cL_within 48 = .ok (.iload 6, 2) := by decide +kernel
theorem dL_within_50 : decode cL_within 50 = .ok (.iadd, 1) := by decide +kernel
theorem dL_within_51 : decode cL_within 51 = .ok (.iaload, 1) := by decide +kernel
theorem dL_within_52 : decode cL_within 52 = .ok (.goto 4, 3) := by decide +kernel
theorem dL_within_55 : decode cL_within 55 = .ok (.iload_n 3, 1) := by decide +kernel
theorem dL_within_56 : decode cL_within 56 = .ok (.istore 8, 2) := by decide +kernel
theorem dL_within_58 : decode cL_within 58 = .ok (.iload 5, 2) := by decide +kernel
theorem dL_within_60 : decode cL_within 60 = .ok (.aload_n 0, 1) := by decide +kernel
theorem dL_within_61 : decode cL_within 61 = .ok (.iload 6, 2) := by decide +kernel
theorem dL_within_63 : decode cL_within 63 = .ok (.invokestatic 28, 3) := by decide +kernel
theorem dL_within_66 : decode cL_within 66 = .ok (.iload 4, 2) := by decide +kernel
theorem dL_within_68 : decode cL_within 68 = .ok (.if_icmp .ne 18, 3) := by decide +kernel
theorem dL_within_71 : decode cL_within 71 = .ok (.iload 8, 2) := by decide +kernel
theorem dL_within_73 : decode cL_within 73 = .ok (.iload 7, 2) := by decide +kernel
theorem dL_within_75 : decode cL_within 75 = .ok (.if_icmp .le 11, 3) := by decide +kernel
theorem dL_within_78 : decode cL_within 78 = .ok (.iload 8, 2) := by decide +kernel
theorem dL_within_80 : decode cL_within 80 = .ok (.iload 7, 2) := by decide +kernel
theorem dL_within_82 : decode cL_within 82 = .ok (.isub, 1) := by decide +kernel
theorem dL_within_83 : decode cL_within 83 = .ok (.goto 4, 3) := by decide +kernel
theorem dL_within_86 : decode cL_within 86 = .ok (.iconst 0, 1) := by decide +kernel
theorem dL_within_87 : decode cL_within 87 = .ok (.iadd, 1) := by decide +kernel
theorem dL_within_88 : decode cL_within 88 = .ok (.istore 5, 2) := by decide +kernel
theorem dL_within_90 : decode cL_within 90 = .ok (.iinc 6 1, 3) := by decide +kernel
theorem dL_within_93 : decode cL_within 93 = .ok (.goto (-87), 3) := by decide +kernel
theorem dL_within_96 : decode cL_within 96 = .ok (.iload 5, 2) := by decide +kernel
theorem dL_within_98 : decode cL_within 98 = .ok (.ireturn, 1) := by decide +kernel
theorem dL_tax_0 : decode cL_tax 0 = .ok (.aload_n 1, 1) := by decide +kernel
theorem dL_tax_1 : decode cL_tax 1 = .ok (.aload_n 2, 1) := by decide +kernel
theorem dL_tax_2 : decode cL_tax 2 = .ok (.iload_n 3, 1) := by decide +kernel
theorem dL_tax_3 : decode cL_tax 3 = .ok (.invokestatic 31, 3) := by decide +kernel
theorem dL_tax_6 : decode cL_tax 6 = .ok (.istore 4, 2) := by decide +kernel
theorem dL_tax_8 : decode cL_tax 8 = .ok (.aload_n 1, 1) := by decide +kernel
theorem dL_tax_9 : decode cL_tax 9 = .ok (.iload_n 3, 1) := by decide +kernel
theorem dL_tax_10 : decode cL_tax 10 = .ok (.invokestatic 35, 3) := by decide +kernel
theorem dL_tax_13 : decode cL_tax 13 = .ok (.aload_n 0, 1) := by decide +kernel
theorem dL_tax_14 : decode cL_tax 14 = .ok (.bipush 13, 2) := by decide +kernel
theorem dL_tax_16 : decode cL_tax 16 = .ok (.invokevirtual 8, 3) := by decide +kernel
theorem dL_tax_19 : decode cL_tax 19 = .ok (.imul, 1) := by decide +kernel
theorem dL_tax_20 : decode cL_tax 20 = .ok (.iload 4, 2) := by decide +kernel
theorem dL_tax_22 : decode cL_tax 22 = .ok (.bipush 10, 2) := by decide +kernel
theorem dL_tax_24 : decode cL_tax 24 = .ok (.idiv, 1) := by decide +kernel
theorem dL_tax_25 : decode cL_tax 25 = .ok (.iload 4, 2) := by decide +kernel
theorem dL_tax_27 : decode cL_tax 27 = .ok (.bipush 10, 2) := by decide +kernel
theorem dL_tax_29 : decode cL_tax 29 = .ok (.irem, 1) := by decide +kernel
theorem dL_tax_30 : decode cL_tax 30 = .ok (.ifCond .le 7, 3) := by decide +kernel
theorem dL_tax_33 : decode cL_tax 33 = .ok (.iconst 1, 1) := by decide +kernel
theorem dL_tax_34 : decode cL_tax 34 = .ok (.goto 4, 3) := by decide +kernel
theorem dL_tax_37 : decode cL_tax 37 = .ok (.iconst 0, 1) := by decide +kernel
theorem dL_tax_38 : decode cL_tax 38 = .ok (.iadd, 1) := by decide +kernel
theorem dL_tax_39 : decode cL_tax 39 = .ok (.aload_n 0, 1) := by decide +kernel
theorem dL_tax_40 : decode cL_tax 40 = .ok (.bipush 12, 2) := by decide +kernel
theorem dL_tax_42 : decode cL_tax 42 = .ok (.invokevirtual 8, 3) := by decide +kernel
theorem dL_tax_45 : decode cL_tax 45 = .ok (.imul, 1) := by decide +kernel
theorem dL_tax_46 : decode cL_tax 46 = .ok (.iadd, 1) := by decide +kernel
theorem dL_tax_47 : decode cL_tax 47 = .ok (.ireturn, 1) := by decide +kernel
theorem dL_isShare_0 : decode cL_isShare 0 = .ok (.aload_n 0, 1) := by decide +kernel
theorem dL_isShare_1 : decode cL_isShare 1 = .ok (.iload_n 1, 1) := by decide +kernel
theorem dL_isShare_2 : decode cL_isShare 2 = .ok (.invokevirtual 38, 3) := by decide +kernel
theorem dL_isShare_5 : decode cL_isShare 5 = .ok (.istore 4, 2) := by decide +kernel
theorem dL_isShare_7 : decode cL_isShare 7 = .ok (.iload_n 2, 1) := by decide +kernel
theorem dL_isShare_8 : decode cL_isShare 8 = .ok (.ifCond .eq 8, 3) := by decide +kernel
theorem dL_isShare_11 : decode cL_isShare 11 = .ok (.iload_n 2, 1) := by decide +kernel
theorem dL_isShare_12 : decode cL_isShare 12 = .ok (.iload_n 3, 1) := by decide +kernel
theorem dL_isShare_13 : decode cL_isShare 13 = .ok (.if_icmp .ne 24, 3) := by decide +kernel
theorem dL_isShare_16 : decode cL_isShare 16 = .ok (.iload 4, 2) := by decide +kernel
theorem dL_isShare_18 : decode cL_isShare 18 = .ok (.iload_n 2, 1) := by decide +kernel
theorem dL_isShare_19 : decode cL_isShare 19 = .ok (.ifCond .ne 7, 3) := by decide +kernel
theorem dL_isShare_22 : decode cL_isShare 22 = .ok (.iconst 0, 1) := by decide +kernel
theorem dL_isShare_23 : decode cL_isShare 23 = .ok (.goto 5, 3) := by decide +kernel
theorem dL_isShare_26 : decode cL_isShare 26 = .ok (.ldc 41, 2) := by decide +kernel
theorem dL_isShare_28 : decode cL_isShare 28 = .ok (.if_icmp .ne 7, 3) := by decide +kernel
theorem dL_isShare_31 : decode cL_isShare 31 = .ok (.iconst 1, 1) := by decide +kernel
theorem dL_isShare_32 : decode cL_isShare 32 = .ok (.goto 4, 3) := by decide +kernel
theorem dL_isShare_35 : decode cL_isShare 35 = .ok (.iconst 0, 1) := by decide +kernel
theorem dL_isShare_36 : decode cL_isShare 36 = .ok (.ireturn, 1) := by decide +kernel
theorem dL_isShare_37 : decode cL_isShare 37 = .ok (.iconst 0, 1) := by decide +kernel
theorem dL_isShare_38 : decode cL_isShare 38 = .ok (.istore 5, 2) := by decide +kernel
theorem dL_isShare_40 : decode cL_isShare 40 = .ok (.iload 5, 2) := by decide +kernel
theorem dL_isShare_42 : decode cL_isShare 42 = .ok (.aload_n 0, 1) := by decide +kernel
theorem dL_isShare_43 : decode cL_isShare 43 = .ok (.iconst 1, 1) := by decide +kernel
theorem dL_isShare_44 : decode cL_isShare 44 = .ok (.invokevirtual 8, 3) := by decide +kernel
theorem dL_isShare_47 : decode cL_isShare 47 = .ok (.if_icmp .ge 54, 3) := by decide +kernel
theorem dL_isShare_50 : decode cL_isShare 50 = .ok (.aload_n 0, 1) := by decide +kernel
theorem dL_isShare_51 : decode cL_isShare 51 = .ok (.iload 5, 2) := by decide +kernel
theorem dL_isShare_53 : decode cL_isShare 53 = .ok (.iconst 1, 1) := by decide +kernel
theorem dL_isShare_54 : decode cL_isShare 54 = .ok (.invokevirtual 42, 3) := by decide +kernel
theorem dL_isShare_57 : decode cL_isShare 57 = .ok (.istore 6, 2) := by decide +kernel
theorem dL_isShare_59 : decode cL_isShare 59 = .ok (.iload 6, 2) := by decide +kernel
theorem dL_isShare_61 : decode cL_isShare 61 = .ok (.iload_n 2, 1) := by decide +kernel
theorem dL_isShare_62 : decode cL_isShare 62 = .ok (.if_icmp .ne 14, 3) := by decide +kernel
theorem dL_isShare_65 : decode cL_isShare 65 = .ok (.aload_n 0, 1) := by decide +kernel
theorem dL_isShare_66 : decode cL_isShare 66 = .ok (.iload 5, 2) := by decide +kernel
theorem dL_isShare_68 : decode cL_isShare 68 = .ok (.invokevirtual 38, 3) := by decide +kernel
theorem dL_isShare_71 : decode cL_isShare 71 = .ok (.iload 4, 2) := by decide +kernel
theorem dL_isShare_73 : decode cL_isShare 73 = .ok (.if_icmp .ne 20, 3) := by decide +kernel
theorem dL_isShare_76 : decode cL_isShare 76 = .ok (.iload 6, 2) := by decide +kernel
theorem dL_isShare_78 : decode cL_isShare 78 = .ok (.iload_n 2, 1) := by decide +kernel
theorem dL_isShare_79 : decode cL_isShare 79 = .ok (.if_icmp .ge 16, 3) := by decide +kernel
theorem dL_isShare_82 : decode cL_isShare 82 = .ok (.aload_n 0, 1) := by decide +kernel
theorem dL_isShare_83 : decode cL_isShare 83 = .ok (.iload 5, 2) := by decide +kernel
theorem dL_isShare_85 : decode cL_isShare 85 = .ok (.invokevirtual 38, 3) := by decide +kernel
theorem dL_isShare_88 : decode cL_isShare 88 = .ok (.iload 4, 2) := by decide +kernel
theorem dL_isShare_90 : decode cL_isShare 90 = .ok (.if_icmp .lt 5, 3) := by decide +kernel
theorem dL_isShare_93 : decode cL_isShare 93 = .ok (.iconst 0, 1) := by decide +kernel
theorem dL_isShare_94 : decode cL_isShare 94 = .ok (.ireturn, 1) := by decide +kernel
theorem dL_isShare_95 : decode cL_isShare 95 = .ok (.iinc 5 1, 3) := by decide +kernel
theorem dL_isShare_98 : decode cL_isShare 98 = .ok (.goto (-58), 3) := by decide +kernel
theorem dL_isShare_101 : decode cL_isShare 101 = .ok (.iload 4, 2) := by decide +kernel
theorem dL_isShare_103 : decode cL_isShare 103 = .ok (.ifCond .le 14, 3) := by decide +kernel
theorem dL_isShare_106 : decode cL_isShare 106 = .ok (.iload 4, 2) := by decide +kernel
theorem dL_isShare_108 : decode cL_isShare 108 = .ok (.ldc 41, 2) := by decide +kernel
theorem dL_isShare_110 : decode cL_isShare 110 = .ok (.if_icmp .ge 7, 3) := by decide +kernel
theorem dL_isShare_113 : decode cL_isShare 113 = .ok (.iconst 1, 1) := by decide +kernel
theorem dL_isShare_114 : decode cL_isShare 114 = .ok (.goto 4, 3) := by decide +kernel
theorem dL_isShare_117 : decode cL_isShare 117 = .ok (.iconst 0, 1) := by decide +kernel
theorem dL_isShare_118 : decode cL_isShare 118 = .ok (.ireturn, 1) := by decide +kernel
theorem dL_agree_0 : decode cL_agree 0 = .ok (.bipush 64, 2) := by decide +kernel
theorem dL_agree_2 : decode cL_agree 2 = .ok (.newarray .int, 2) := by decide +kernel
theorem dL_agree_4 : decode cL_agree 4 = .ok (.astore_n 1, 1) := by decide +kernel
theorem dL_agree_5 : decode cL_agree 5 = .ok (.bipush 64, 2) := by decide +kernel
theorem dL_agree_7 : decode cL_agree 7 = .ok (.newarray .int, 2) := by decide +kernel
theorem dL_agree_9 : decode cL_agree 9 = .ok (.astore_n 2, 1) := by decide +kernel
theorem dL_agree_10 : decode cL_agree 10 = .ok (.aload_n 0, 1) := by decide +kernel
theorem dL_agree_11 : decode cL_agree 11 = .ok (.aload_n 1, 1) := by decide +kernel
theorem dL_agree_12 : decode cL_agree 12 = .ok (.aload_n 2, 1) := by decide +kernel
theorem dL_agree_13 : decode cL_agree 13 = .ok (.invokestatic 45, 3) := by decide +kernel
theorem dL_agree_16 : decode cL_agree 16 = .ok (.iconst 0, 1) := by decide +kernel
theorem dL_agree_17 : decode cL_agree 17 = .ok (.istore_n 3, 1) := by decide +kernel
theorem dL_agree_18 : decode cL_agree 18 = .ok (.iconst 0, 1) := by decide +kernel
theorem dL_agree_19 : decode cL_agree 19 = .ok (.istore 4, 2) := by decide +kernel
theorem dL_agree_21 : decode cL_agree 21 = .ok (.iconst 0, 1) := by decide +kernel
theorem dL_agree_22 : decode cL_agree 22 = .ok (.istore 5, 2) := by decide +kernel
theorem dL_agree_24 : decode cL_agree 24 = .ok (.iconst 0, 1) := by decide +kernel
theorem dL_agree_25 : decode cL_agree 25 = .ok (.istore 6, 2) := by decide +kernel
theorem dL_agree_27 : decode cL_agree 27 = .ok (.iconst 0, 1) := by decide +kernel
theorem dL_agree_28 : decode cL_agree 28 = .ok (.istore 7, 2) := by decide +kernel
theorem dL_agree_30 : decode cL_agree 30 = .ok (.iload 7, 2) := by decide +kernel
theorem dL_agree_32 : decode cL_agree 32 = .ok (.aload_n 1, 1) := by decide +kernel
theorem dL_agree_33 : decode cL_agree 33 = .ok (.iconst 0, 1) := by decide +kernel
theorem dL_agree_34 : decode cL_agree 34 = .ok (.iaload, 1) := by decide +kernel
theorem dL_agree_35 : decode cL_agree 35 = .ok (.if_icmp .gt 205, 3) := by decide +kernel
theorem dL_agree_38 : decode cL_agree 38 = .ok (.iload 7, 2) := by decide +kernel
theorem dL_agree_40 : decode cL_agree 40 = .ok (.aload_n 1, 1) := by decide +kernel
theorem dL_agree_41 : decode cL_agree 41 = .ok (.iconst 0, 1) := by decide +kernel
theorem dL_agree_42 : decode cL_agree 42 = .ok (.iaload, 1) := by decide +kernel
theorem dL_agree_43 : decode cL_agree 43 = .ok (.if_icmp .ge 12, 3) := by decide +kernel
theorem dL_agree_46 : decode cL_agree 46 = .ok (.aload_n 1, 1) := by decide +kernel
theorem dL_agree_47 : decode cL_agree 47 = .ok (.iload 7, 2) := by decide +kernel
theorem dL_agree_49 : decode cL_agree 49 = .ok (.invokestatic 18, 3) := by decide +kernel
theorem dL_agree_52 : decode cL_agree 52 = .ok (.goto 6, 3) := by decide +kernel
theorem dL_agree_55 : decode cL_agree 55 = .ok (.sipush 10000, 3) := by decide +kernel
theorem dL_agree_58 : decode cL_agree 58 = .ok (.istore 8, 2) := by decide +kernel
theorem dL_agree_60 : decode cL_agree 60 = .ok (.iload 8, 2) := by decide +kernel
theorem dL_agree_62 : decode cL_agree 62 = .ok (.iload_n 3, 1) := by decide +kernel
theorem dL_agree_63 : decode cL_agree 63 = .ok (.if_icmp .lt 39, 3) := by decide +kernel
theorem dL_agree_66 : decode cL_agree 66 = .ok (.iload 7, 2) := by decide +kernel
theorem dL_agree_68 : decode cL_agree 68 = .ok (.ifCond .le 36, 3) := by decide +kernel
theorem dL_agree_71 : decode cL_agree 71 = .ok (.iload 7, 2) := by decide +kernel
theorem dL_agree_73 : decode cL_agree 73 = .ok (.aload_n 1, 1) := by decide +kernel
theorem dL_agree_74 : decode cL_agree 74 = .ok (.iconst 0, 1) := by decide +kernel
theorem dL_agree_75 : decode cL_agree 75 = .ok (.iaload, 1) := by decide +kernel
theorem dL_agree_76 : decode cL_agree 76 = .ok (.if_icmp .ge 28, 3) := by decide +kernel
theorem dL_agree_79 : decode cL_agree 79 = .ok (.iload 8, 2) := by decide +kernel
theorem dL_agree_81 : decode cL_agree 81 = .ok (.iload_n 3, 1) := by decide +kernel
theorem dL_agree_82 : decode cL_agree 82 = .ok (.if_icmp .ne 22, 3) := by decide +kernel
theorem dL_agree_85 : decode cL_agree 85 = .ok (.aload_n 1, 1) := by decide +kernel
theorem dL_agree_86 : decode cL_agree 86 = .ok (.iload 7, 2) := by decide +kernel
theorem dL_agree_88 : decode cL_agree 88 = .ok (.invokestatic 28, 3) := by decide +kernel
theorem dL_agree_91 : decode cL_agree 91 = .ok (.aload_n 1, 1) := by decide +kernel
theorem dL_agree_92 : decode cL_agree 92 = .ok (.iload 7, 2) := by decide +kernel
theorem dL_agree_94 : decode cL_agree 94 = .ok (.iconst 1, 1) := by decide +kernel
theorem dL_agree_95 : decode cL_agree 95 = .ok (.isub, 1) := by decide +kernel
theorem dL_agree_96 : decode cL_agree 96 = .ok (.invokestatic 28, 3) := by decide +kernel
theorem dL_agree_99 : decode cL_agree 99 = .ok (.if_icmp .ne 5, 3) := by decide +kernel
theorem dL_agree_102 : decode cL_agree 102 = .ok (.iconst 0, 1) := by decide +kernel
theorem dL_agree_103 : decode cL_agree 103 = .ok (.ireturn, 1) := by decide +kernel
theorem dL_agree_104 : decode cL_agree 104 = .ok (.iload 4, 2) := by decide +kernel
theorem dL_agree_106 : decode cL_agree 106 = .ok (.iload 8, 2) := by decide +kernel
theorem dL_agree_108 : decode cL_agree 108 = .ok (.iload_n 3, 1) := by decide +kernel
theorem dL_agree_109 : decode cL_agree 109 = .ok (.if_icmp .le 7, 3) := by decide +kernel
theorem dL_agree_112 : decode cL_agree 112 = .ok (.iconst 1, 1) := by decide +kernel
theorem dL_agree_113 : decode cL_agree 113 = .ok (.goto 4, 3) := by decide +kernel
theorem dL_agree_116 : decode cL_agree 116 = .ok (.iconst 0, 1) := by decide +kernel
theorem dL_agree_117 : decode cL_agree 117 = .ok (.iadd, 1) := by decide +kernel
theorem dL_agree_118 : decode cL_agree 118 = .ok (.istore 4, 2) := by decide +kernel
theorem dL_agree_120 : decode cL_agree 120 = .ok (.iload 8, 2) := by decide +kernel
theorem dL_agree_122 : decode cL_agree 122 = .ok (.iload_n 3, 1) := by decide +kernel
theorem dL_agree_123 : decode cL_agree 123 = .ok (.isub, 1) := by decide +kernel
theorem dL_agree_124 : decode cL_agree 124 = .ok (.iload 5, 2) := by decide +kernel
theorem dL_agree_126 : decode cL_agree 126 = .ok (.if_icmp .le 10, 3) := by decide +kernel
theorem dL_agree_129 : decode cL_agree 129 = .ok (.iload 8, 2) := by decide +kernel
theorem dL_agree_131 : decode cL_agree 131 = .ok (.iload_n 3, 1) := by decide +kernel
theorem dL_agree_132 : decode cL_agree 132 = .ok (.isub, 1) := by decide +kernel
theorem dL_agree_133 : decode cL_agree 133 = .ok (.goto 5, 3) := by decide +kernel
theorem dL_agree_136 : decode cL_agree 136 = .ok (.iload 5, 2) := by decide +kernel
theorem dL_agree_138 : decode cL_agree 138 = .ok (.istore 5, 2) := by decide +kernel
theorem dL_agree_140 : decode cL_agree 140 = .ok (.iload 8, 2) := by decide +kernel
theorem dL_agree_142 : decode cL_agree 142 = .ok (.iload_n 3, 1) := by decide +kernel
theorem dL_agree_143 : decode cL_agree 143 = .ok (.if_icmp .le 28, 3) := by decide +kernel
theorem dL_agree_146 : decode cL_agree 146 = .ok (.aload_n 0, 1) := by decide +kernel
theorem dL_agree_147 : decode cL_agree 147 = .ok (.iload_n 3, 1) := by decide +kernel
theorem dL_agree_148 : decode cL_agree 148 = .ok (.invokevirtual 49, 3) := by decide +kernel
theorem dL_agree_151 : decode cL_agree 151 = .ok (.bipush (-6), 2) := by decide +kernel
theorem dL_agree_153 : decode cL_agree 153 = .ok (.if_icmp .ne 16, 3) := by decide +kernel
theorem dL_agree_156 : decode cL_agree 156 = .ok (.aload_n 0, 1) := by decide +kernel
theorem dL_agree_157 : decode cL_agree 157 = .ok (.iload 8, 2) := by decide +kernel
theorem dL_agree_159 : decode cL_agree 159 = .ok (.iconst 1, 1) := by decide +kernel
theorem dL_agree_160 : decode cL_agree 160 = .ok (.isub, 1) := by decide +kernel
theorem dL_agree_161 : decode cL_agree 161 = .ok (.invokevirtual 49, 3) := by decide +kernel
theorem dL_agree_164 : decode cL_agree 164 = .ok (.bipush (-6), 2) := by decide +kernel
theorem dL_agree_166 : decode cL_agree 166 = .ok (.if_icmp .eq 5, 3) := by decide +kernel
theorem dL_agree_169 : decode cL_agree 169 = .ok (.iconst 0, 1) := by decide +kernel
theorem dL_agree_170 : decode cL_agree 170 = .ok (.ireturn, 1) := by decide +kernel
theorem dL_agree_171 : decode cL_agree 171 = .ok (.iload 7, 2) := by decide +kernel
theorem dL_agree_173 : decode cL_agree 173 = .ok (.aload_n 1, 1) := by decide +kernel
theorem dL_agree_174 : decode cL_agree 174 = .ok (.iconst 0, 1) := by decide +kernel
theorem dL_agree_175 : decode cL_agree 175 = .ok (.iaload, 1) := by decide +kernel
theorem dL_agree_176 : decode cL_agree 176 = .ok (.if_icmp .ge 58, 3) := by decide +kernel
theorem dL_agree_179 : decode cL_agree 179 = .ok (.aload_n 2, 1) := by decide +kernel
theorem dL_agree_180 : decode cL_agree 180 = .ok (.iconst 1, 1) := by decide +kernel
theorem dL_agree_181 : decode cL_agree 181 = .ok (.iload 7, 2) := by decide +kernel
theorem dL_agree_183 : decode cL_agree 183 = .ok (.iadd, 1) := by decide +kernel
theorem dL_agree_184 : decode cL_agree 184 = .ok (.iaload, 1) := by decide +kernel
theorem dL_agree_185 : decode cL_agree 185 = .ok (.istore_n 3, 1) := by decide +kernel
theorem dL_agree_186 : decode cL_agree 186 = .ok (.iload 6, 2) := by decide +kernel
theorem dL_agree_188 : decode cL_agree 188 = .ok (.iload_n 3, 1) := by decide +kernel
theorem dL_agree_189 : decode cL_agree 189 = .ok (.iload 8, 2) := by decide +kernel
theorem dL_agree_191 : decode cL_agree 191 = .ok (.isub, 1) := by decide +kernel
theorem dL_agree_192 : decode cL_agree 192 = .ok (.iadd, 1) := by decide +kernel
theorem dL_agree_193 : decode cL_agree 193 = .ok (.istore 6, 2) := by decide +kernel
theorem dL_agree_195 : decode cL_agree 195 = .ok (.iload_n 3, 1) := by decide +kernel
theorem dL_agree_196 : decode cL_agree 196 = .ok (.iload 8, 2) := by decide +kernel
theorem dL_agree_198 : decode cL_agree 198 = .ok (.if_icmp .le 34, 3) := by decide +kernel
theorem dL_agree_201 : decode cL_agree 201 = .ok (.aload_n 0, 1) := by decide +kernel
theorem dL_agree_202 : decode cL_agree 202 = .ok (.iload 8, 2) := by decide +kernel
theorem dL_agree_204 : decode cL_agree 204 = .ok (.invokevirtual 49, 3) := by decide +kernel
theorem dL_agree_207 : decode cL_agree 207 = .ok (.aload_n 1, 1) := by decide +kernel
theorem dL_agree_208 : decode cL_agree 208 = .ok (.iload 7, 2) := by decide +kernel
theorem dL_agree_210 : decode cL_agree 210 = .ok (.invokestatic 28, 3) := by decide +kernel
theorem dL_agree_213 : decode cL_agree 213 = .ok (.if_icmp .ne 19, 3) := by decide +kernel
theorem dL_agree_216 : decode cL_agree 216 = .ok (.aload_n 0, 1) := by decide +kernel
theorem dL_agree_217 : decode cL_agree 217 = .ok (.iload_n 3, 1) := by decide +kernel
theorem dL_agree_218 : decode cL_agree 218 = .ok (.iconst 1, 1) := by decide +kernel
theorem dL_agree_219 : decode cL_agree 219 = .ok (.isub, 1) := by decide +kernel
theorem dL_agree_220 : decode cL_agree 220 = .ok (.invokevirtual 49, 3) := by decide +kernel
theorem dL_agree_223 : decode cL_agree 223 = .ok (.aload_n 1, 1) := by decide +kernel
theorem dL_agree_224 : decode cL_agree 224 = .ok (.iload 7, 2) := by decide +kernel
theorem dL_agree_226 : decode cL_agree 226 = .ok (.invokestatic 28, 3) := by decide +kernel
theorem dL_agree_229 : decode cL_agree 229 = .ok (.if_icmp .eq 5, 3) := by decide +kernel
theorem dL_agree_232 : decode cL_agree 232 = .ok (.iconst 0, 1) := by decide +kernel
theorem dL_agree_233 : decode cL_agree 233 = .ok (.ireturn, 1) := by decide +kernel
theorem dL_agree_234 : decode cL_agree 234 = .ok (.iinc 7 1, 3) := by decide +kernel
theorem dL_agree_237 : decode cL_agree 237 = .ok (.goto (-207), 3) := by decide +kernel
theorem dL_agree_240 : decode cL_agree 240 = .ok (.iload_n 3, 1) := by decide +kernel
theorem dL_agree_241 : decode cL_agree 241 = .ok (.sipush 10000, 3) := by decide +kernel
theorem dL_agree_244 : decode cL_agree 244 = .ok (.if_icmp .gt 70, 3) := by decide +kernel
theorem dL_agree_247 : decode cL_agree 247 = .ok (.aload_n 0, 1) := by decide +kernel
theorem dL_agree_248 : decode cL_agree 248 = .ok (.iconst 3, 1) := by decide +kernel
theorem dL_agree_249 : decode cL_agree 249 = .ok (.invokevirtual 8, 3) := by decide +kernel
theorem dL_agree_252 : decode cL_agree 252 = .ok (.iload 6, 2) := by decide +kernel
theorem dL_agree_254 : decode cL_agree 254 = .ok (.if_icmp .ne 60, 3) := by decide +kernel
theorem dL_agree_257 : decode cL_agree 257 = .ok (.aload_n 0, 1) := by decide +kernel
theorem dL_agree_258 : decode cL_agree 258 = .ok (.iconst 4, 1) := by decide +kernel
theorem dL_agree_259 : decode cL_agree 259 = .ok (.invokevirtual 8, 3) := by decide +kernel
theorem dL_agree_262 : decode cL_agree 262 = .ok (.iload 4, 2) := by decide +kernel
theorem dL_agree_264 : decode cL_agree 264 = .ok (.if_icmp .ne 50, 3) := by decide +kernel
theorem dL_agree_267 : decode cL_agree 267 = .ok (.aload_n 0, 1) := by decide +kernel
theorem dL_agree_268 : decode cL_agree 268 = .ok (.iconst 5, 1) := by decide +kernel
theorem dL_agree_269 : decode cL_agree 269 = .ok (.invokevirtual 8, 3) := by decide +kernel
theorem dL_agree_272 : decode cL_agree 272 = .ok (.iload 5, 2) := by decide +kernel
theorem dL_agree_274 : decode cL_agree 274 = .ok (.if_icmp .ne 40, 3) := by decide +kernel
theorem dL_agree_277 : decode cL_agree 277 = .ok (.iload 5, 2) := by decide +kernel
theorem dL_agree_279 : decode cL_agree 279 = .ok (.ifCond .le 13, 3) := by decide +kernel
theorem dL_agree_282 : decode cL_agree 282 = .ok (.aload_n 0, 1) := by decide +kernel
theorem dL_agree_283 : decode cL_agree 283 = .ok (.iload 5, 2) := by decide +kernel
theorem dL_agree_285 : decode cL_agree 285 = .ok (.iconst 0, 1) := by decide +kernel
theorem dL_agree_286 : decode cL_agree 286 = .ok (.invokevirtual 52, 3) := by decide +kernel
theorem dL_agree_289 : decode cL_agree 289 = .ok (.ifCond .lt 25, 3) := by decide +kernel
theorem dL_agree_292 : decode cL_agree 292 = .ok (.iload 5, 2) := by decide +kernel
theorem dL_agree_294 : decode cL_agree 294 = .ok (.sipush 10000, 3) := by decide +kernel
theorem dL_agree_297 : decode cL_agree 297 = .ok (.if_icmp .ge 19, 3) := by decide +kernel
theorem dL_agree_300 : decode cL_agree 300 = .ok (.aload_n 0, 1) := by decide +kernel
theorem dL_agree_301 : decode cL_agree 301 = .ok (.iload 5, 2) := by decide +kernel
theorem dL_agree_303 : decode cL_agree 303 = .ok (.iconst 1, 1) := by decide +kernel
theorem dL_agree_304 : decode cL_agree 304 = .ok (.iadd, 1) := by decide +kernel
theorem dL_agree_305 : decode cL_agree 305 = .ok (.iconst 2, 1) := by decide +kernel
theorem dL_agree_306 : decode cL_agree 306 = .ok (.invokevirtual 52, 3) := by decide +kernel
theorem dL_agree_309 : decode cL_agree 309 = .ok (.bipush (-6), 2) := by decide +kernel
theorem dL_agree_311 : decode cL_agree 311 = .ok (.if_icmp .eq 5, 3) := by decide +kernel
theorem dL_agree_314 : decode cL_agree 314 = .ok (.iconst 0, 1) := by decide +kernel
theorem dL_agree_315 : decode cL_agree 315 = .ok (.ireturn, 1) := by decide +kernel
theorem dL_agree_316 : decode cL_agree 316 = .ok (.iconst 0, 1) := by decide +kernel
theorem dL_agree_317 : decode cL_agree 317 = .ok (.istore 7, 2) := by decide +kernel
theorem dL_agree_319 : decode cL_agree 319 = .ok (.iconst 0, 1) := by decide +kernel
theorem dL_agree_320 : decode cL_agree 320 = .ok (.istore 8, 2) := by decide +kernel
theorem dL_agree_322 : decode cL_agree 322 = .ok (.iload 8, 2) := by decide +kernel
theorem dL_agree_324 : decode cL_agree 324 = .ok (.aload_n 0, 1) := by decide +kernel
theorem dL_agree_325 : decode cL_agree 325 = .ok (.iconst 1, 1) := by decide +kernel
theorem dL_agree_326 : decode cL_agree 326 = .ok (.invokevirtual 8, 3) := by decide +kernel
theorem dL_agree_329 : decode cL_agree 329 = .ok (.if_icmp .ge 230, 3) := by decide +kernel
theorem dL_agree_332 : decode cL_agree 332 = .ok (.iconst 0, 1) := by decide +kernel
theorem dL_agree_333 : decode cL_agree 333 = .ok (.istore 9, 2) := by decide +kernel
theorem dL_agree_335 : decode cL_agree 335 = .ok (.iconst (-1), 1) := by decide +kernel
theorem dL_agree_336 : decode cL_agree 336 = .ok (.istore 10, 2) := by decide +kernel
theorem dL_agree_338 : decode cL_agree 338 = .ok (.iconst 0, 1) := by decide +kernel
theorem dL_agree_339 : decode cL_agree 339 = .ok (.istore 11, 2) := by decide +kernel
theorem dL_agree_341 : decode cL_agree 341 = .ok (.iconst 0, 1) := by decide +kernel
theorem dL_agree_342 : decode cL_agree 342 = .ok (.istore 12, 2) := by decide +kernel
theorem dL_agree_344 : decode cL_agree 344 = .ok (.iload 12, 2) := by decide +kernel
theorem dL_agree_346 : decode cL_agree 346 = .ok (.aload_n 1, 1) := by decide +kernel
theorem dL_agree_347 : decode cL_agree 347 = .ok (.iconst 0, 1) := by decide +kernel
theorem dL_agree_348 : decode cL_agree 348 = .ok (.iaload, 1) := by decide +kernel
theorem dL_agree_349 : decode cL_agree 349 = .ok (.if_icmp .ge 84, 3) := by decide +kernel
theorem dL_agree_352 : decode cL_agree 352 = .ok (.aload_n 1, 1) := by decide +kernel
theorem dL_agree_353 : decode cL_agree 353 = .ok (.iload 12, 2) := by decide +kernel
theorem dL_agree_355 : decode cL_agree 355 = .ok (.invokestatic 28, 3) := by decide +kernel
theorem dL_agree_358 : decode cL_agree 358 = .ok (.iload 8, 2) := by decide +kernel
theorem dL_agree_360 : decode cL_agree 360 = .ok (.if_icmp .ne 67, 3) := by decide +kernel
theorem dL_agree_363 : decode cL_agree 363 = .ok (.aload_n 2, 1) := by decide +kernel
theorem dL_agree_364 : decode cL_agree 364 = .ok (.iconst 1, 1) := by decide +kernel
theorem dL_agree_365 : decode cL_agree 365 = .ok (.iload 12, 2) := by decide +kernel
theorem dL_agree_367 : decode cL_agree 367 = .ok (.iadd, 1) := by decide +kernel
theorem dL_agree_368 : decode cL_agree 368 = .ok (.iaload, 1) := by decide +kernel
theorem dL_agree_369 : decode cL_agree 369 = .ok (.aload_n 1, 1) := by decide +kernel
theorem dL_agree_370 : decode cL_agree 370 = .ok (.iload 12, 2) := by decide +kernel
theorem dL_agree_372 : decode cL_agree 372 = .ok (.invokestatic 18, 3) := by decide +kernel
theorem dL_agree_375 : decode cL_agree 375 = .ok (.isub, 1) := by decide +kernel
theorem dL_agree_376 : decode cL_agree 376 = .ok (.iload 9, 2) := by decide +kernel
theorem dL_agree_378 : decode cL_agree 378 = .ok (.if_icmp .le 19, 3) := by decide +kernel
theorem dL_agree_381 : decode cL_agree 381 = .ok (.aload_n 2, 1) := by decide +kernel
theorem dL_agree_382 : decode cL_agree 382 = .ok (.iconst 1, 1) := by decide +kernel
theorem dL_agree_383 : decode cL_agree 383 = .ok (.iload 12, 2) := by decide +kernel
theorem dL_agree_385 : decode cL_agree 385 = .ok (.iadd, 1) := by decide +kernel
theorem dL_agree_386 : decode cL_agree 386 = .ok (.iaload, 1) := by decide +kernel
theorem dL_agree_387 : decode cL_agree 387 = .ok (.aload_n 1, 1) := by decide +kernel
theorem dL_agree_388 : decode cL_agree 388 = .ok (.iload 12, 2) := by decide +kernel
theorem dL_agree_390 : decode cL_agree 390 = .ok (.invokestatic 18, 3) := by decide +kernel
theorem dL_agree_393 : decode cL_agree 393 = .ok (.isub, 1) := by decide +kernel
theorem dL_agree_394 : decode cL_agree 394 = .ok (.goto 5, 3) := by decide +kernel
theorem dL_agree_397 : decode cL_agree 397 = .ok (.iload 9, 2) := by decide +kernel
theorem dL_agree_399 : decode cL_agree 399 = .ok (.istore 9, 2) := by decide +kernel
theorem dL_agree_401 : decode cL_agree 401 = .ok (.iload 10, 2) := by decide +kernel
theorem dL_agree_403 : decode cL_agree 403 = .ok (.ifCond .ge 12, 3) := by decide +kernel
theorem dL_agree_406 : decode cL_agree 406 = .ok (.aload_n 1, 1) := by decide +kernel
theorem dL_agree_407 : decode cL_agree 407 = .ok (.iload 12, 2) := by decide +kernel
theorem dL_agree_409 : decode cL_agree 409 = .ok (.invokestatic 18, 3) := by decide +kernel
theorem dL_agree_412 : decode cL_agree 412 = .ok (.goto 5, 3) := by decide +kernel
theorem dL_agree_415 : decode cL_agree 415 = .ok (.iload 10, 2) := by decide +kernel
theorem dL_agree_417 : decode cL_agree 417 = .ok (.istore 10, 2) := by decide +kernel
theorem dL_agree_419 : decode cL_agree 419 = .ok (.aload_n 2, 1) := by decide +kernel
theorem dL_agree_420 : decode cL_agree 420 = .ok (.iconst 1, 1) := by decide +kernel
theorem dL_agree_421 : decode cL_agree 421 = .ok (.iload 12, 2) := by decide +kernel
theorem dL_agree_423 : decode cL_agree 423 = .ok (.iadd, 1) := by decide +kernel
theorem dL_agree_424 : decode cL_agree 424 = .ok (.iaload, 1) := by decide +kernel
theorem dL_agree_425 : decode cL_agree 425 = .ok (.istore 11, 2) := by decide +kernel
theorem dL_agree_427 : decode cL_agree 427 = .ok (.iinc 12 1, 3) := by decide +kernel
theorem dL_agree_430 : decode cL_agree 430 = .ok (.goto (-86), 3) := by decide +kernel
theorem dL_agree_433 : decode cL_agree 433 = .ok (.aload_n 1, 1) := by decide +kernel
theorem dL_agree_434 : decode cL_agree 434 = .ok (.aload_n 2, 1) := by decide +kernel
theorem dL_agree_435 : decode cL_agree 435 = .ok (.iload 8, 2) := by decide +kernel
theorem dL_agree_437 : decode cL_agree 437 = .ok (.invokestatic 31, 3) := by decide +kernel
theorem dL_agree_440 : decode cL_agree 440 = .ok (.istore 12, 2) := by decide +kernel
theorem dL_agree_442 : decode cL_agree 442 = .ok (.aload_n 0, 1) := by decide +kernel
theorem dL_agree_443 : decode cL_agree 443 = .ok (.iload 8, 2) := by decide +kernel
theorem dL_agree_445 : decode cL_agree 445 = .ok (.iconst 0, 1) := by decide +kernel
theorem dL_agree_446 : decode cL_agree 446 = .ok (.invokevirtual 42, 3) := by decide +kernel
theorem dL_agree_449 : decode cL_agree 449 = .ok (.aload_n 1, 1) := by decide +kernel
theorem dL_agree_450 : decode cL_agree 450 = .ok (.iload 8, 2) := by decide +kernel
theorem dL_agree_452 : decode cL_agree 452 = .ok (.invokestatic 35, 3) := by decide +kernel
theorem dL_agree_455 : decode cL_agree 455 = .ok (.if_icmp .ne 84, 3) := by decide +kernel
theorem dL_agree_458 : decode cL_agree 458 = .ok (.aload_n 0, 1) := by decide +kernel
theorem dL_agree_459 : decode cL_agree 459 = .ok (.iload 8, 2) := by decide +kernel
theorem dL_agree_461 : decode cL_agree 461 = .ok (.iconst 1, 1) := by decide +kernel
theorem dL_agree_462 : decode cL_agree 462 = .ok (.invokevirtual 42, 3) := by decide +kernel
theorem dL_agree_465 : decode cL_agree 465 = .ok (.iload 12, 2) := by decide +kernel
theorem dL_agree_467 : decode cL_agree 467 = .ok (.if_icmp .ne 72, 3) := by decide +kernel
theorem dL_agree_470 : decode cL_agree 470 = .ok (.aload_n 0, 1) := by decide +kernel
theorem dL_agree_471 : decode cL_agree 471 = .ok (.iload 8, 2) := by decide +kernel
theorem dL_agree_473 : decode cL_agree 473 = .ok (.iconst 2, 1) := by decide +kernel
theorem dL_agree_474 : decode cL_agree 474 = .ok (.invokevirtual 42, 3) := by decide +kernel
theorem dL_agree_477 : decode cL_agree 477 = .ok (.iload 9, 2) := by decide +kernel
theorem dL_agree_479 : decode cL_agree 479 = .ok (.if_icmp .ne 60, 3) := by decide +kernel
theorem dL_agree_482 : decode cL_agree 482 = .ok (.aload_n 0, 1) := by decide +kernel
theorem dL_agree_483 : decode cL_agree 483 = .ok (.iload 8, 2) := by decide +kernel
theorem dL_agree_485 : decode cL_agree 485 = .ok (.iconst 3, 1) := by decide +kernel
theorem dL_agree_486 : decode cL_agree 486 = .ok (.invokevirtual 42, 3) := by decide +kernel
theorem dL_agree_489 : decode cL_agree 489 = .ok (.aload_n 0, 1) := by decide +kernel
theorem dL_agree_490 : decode cL_agree 490 = .ok (.aload_n 1, 1) := by decide +kernel
theorem dL_agree_491 : decode cL_agree 491 = .ok (.aload_n 2, 1) := by decide +kernel
theorem dL_agree_492 : decode cL_agree 492 = .ok (.iload 8, 2) := by decide +kernel
theorem dL_agree_494 : decode cL_agree 494 = .ok (.invokestatic 55, 3) := by decide +kernel
theorem dL_agree_497 : decode cL_agree 497 = .ok (.if_icmp .ne 42, 3) := by decide +kernel
theorem dL_agree_500 : decode cL_agree 500 = .ok (.aload_n 0, 1) := by decide +kernel
theorem dL_agree_501 : decode cL_agree 501 = .ok (.iload 8, 2) := by decide +kernel
theorem dL_agree_503 : decode cL_agree 503 = .ok (.invokevirtual 59, 3) := by decide +kernel
theorem dL_agree_506 : decode cL_agree 506 = .ok (.iload 10, 2) := by decide +kernel
theorem dL_agree_508 : decode cL_agree 508 = .ok (.ifCond .ge 7, 3) := by decide +kernel
theorem dL_agree_511 : decode cL_agree 511 = .ok (.iconst 0, 1) := by decide +kernel
theorem dL_agree_512 : decode cL_agree 512 = .ok (.goto 11, 3) := by decide +kernel
theorem dL_agree_515 : decode cL_agree 515 = .ok (.iload 11, 2) := by decide +kernel
theorem dL_agree_517 : decode cL_agree 517 = .ok (.iload 10, 2) := by decide +kernel
theorem dL_agree_519 : decode cL_agree 519 = .ok (.isub, 1) := by decide +kernel
theorem dL_agree_520 : decode cL_agree 520 = .ok (.iload 12, 2) := by decide +kernel
theorem dL_agree_522 : decode cL_agree 522 = .ok (.isub, 1) := by decide +kernel
theorem dL_agree_523 : decode cL_agree 523 = .ok (.if_icmp .ne 16, 3) := by decide +kernel
theorem dL_agree_526 : decode cL_agree 526 = .ok (.aload_n 0, 1) := by decide +kernel
theorem dL_agree_527 : decode cL_agree 527 = .ok (.iload 8, 2) := by decide +kernel
theorem dL_agree_529 : decode cL_agree 529 = .ok (.iload 12, 2) := by decide +kernel
theorem dL_agree_531 : decode cL_agree 531 = .ok (.iload 6, 2) := by decide +kernel
theorem dL_agree_533 : decode cL_agree 533 = .ok (.invokestatic 62, 3) := by decide +kernel
theorem dL_agree_536 : decode cL_agree 536 = .ok (.ifCond .ne 5, 3) := by decide +kernel
theorem dL_agree_539 : decode cL_agree 539 = .ok (.iconst 0, 1) := by decide +kernel
theorem dL_agree_540 : decode cL_agree 540 = .ok (.ireturn, 1) := by decide +kernel
theorem dL_agree_541 : decode cL_agree 541 = .ok (.iload 7, 2) := by decide +kernel
theorem dL_agree_543 : decode cL_agree 543 = .ok (.aload_n 0, 1) := by decide +kernel
theorem dL_agree_544 : decode cL_agree 544 = .ok (.iload 8, 2) := by decide +kernel
theorem dL_agree_546 : decode cL_agree 546 = .ok (.iconst 4, 1) := by decide +kernel
theorem dL_agree_547 : decode cL_agree 547 = .ok (.invokevirtual 42, 3) := by decide +kernel
theorem dL_agree_550 : decode cL_agree 550 = .ok (.iadd, 1) := by decide +kernel
theorem dL_agree_551 : decode cL_agree 551 = .ok (.istore 7, 2) := by decide +kernel
theorem dL_agree_553 : decode cL_agree 553 = .ok (.iinc 8 1, 3) := by decide +kernel
theorem dL_agree_556 : decode cL_agree 556 = .ok (.goto (-234), 3) := by decide +kernel
theorem dL_agree_559 : decode cL_agree 559 = .ok (.iload 7, 2) := by decide +kernel
theorem dL_agree_561 : decode cL_agree 561 = .ok (.aload_n 0, 1) := by decide +kernel
theorem dL_agree_562 : decode cL_agree 562 = .ok (.bipush 9, 2) := by decide +kernel
theorem dL_agree_564 : decode cL_agree 564 = .ok (.invokevirtual 8, 3) := by decide +kernel
theorem dL_agree_567 : decode cL_agree 567 = .ok (.if_icmp .ne 7, 3) := by decide +kernel
theorem dL_agree_570 : decode cL_agree 570 = .ok (.iconst 1, 1) := by decide +kernel
theorem dL_agree_571 : decode cL_agree 571 = .ok (.goto 4, 3) := by decide +kernel
theorem dL_agree_574 : decode cL_agree 574 = .ok (.iconst 0, 1) := by decide +kernel
theorem dL_agree_575 : decode cL_agree 575 = .ok (.ireturn, 1) := by decide +kernel
theorem dL_isGiven_0 : decode cL_isGiven 0 = .ok (.bipush 64, 2) := by decide +kernel
theorem dL_isGiven_2 : decode cL_isGiven 2 = .ok (.newarray .int, 2) := by decide +kernel
theorem dL_isGiven_4 : decode cL_isGiven 4 = .ok (.astore 4, 2) := by decide +kernel
theorem dL_isGiven_6 : decode cL_isGiven 6 = .ok (.bipush 64, 2) := by decide +kernel
theorem dL_isGiven_8 : decode cL_isGiven 8 = .ok (.newarray .int, 2) := by decide +kernel
theorem dL_isGiven_10 : decode cL_isGiven 10 = .ok (.astore 5, 2) := by decide +kernel
theorem dL_isGiven_12 : decode cL_isGiven 12 = .ok (.bipush 64, 2) := by decide +kernel
theorem dL_isGiven_14 : decode cL_isGiven 14 = .ok (.newarray .int, 2) := by decide +kernel
theorem dL_isGiven_16 : decode cL_isGiven 16 = .ok (.astore 6, 2) := by decide +kernel
theorem dL_isGiven_18 : decode cL_isGiven 18 = .ok (.bipush 64, 2) := by decide +kernel
theorem dL_isGiven_20 : decode cL_isGiven 20 = .ok (.newarray .int, 2) := by decide +kernel
theorem dL_isGiven_22 : decode cL_isGiven 22 = .ok (.astore 7, 2) := by decide +kernel
theorem dL_isGiven_24 : decode cL_isGiven 24 = .ok (.aload_n 0, 1) := by decide +kernel
theorem dL_isGiven_25 : decode cL_isGiven 25 = .ok (.aload 4, 2) := by decide +kernel
theorem dL_isGiven_27 : decode cL_isGiven 27 = .ok (.aload 5, 2) := by decide +kernel
theorem dL_isGiven_29 : decode cL_isGiven 29 = .ok (.invokestatic 45, 3) := by decide +kernel
theorem dL_isGiven_32 : decode cL_isGiven 32 = .ok (.aload 4, 2) := by decide +kernel
theorem dL_isGiven_34 : decode cL_isGiven 34 = .ok (.aload 5, 2) := by decide +kernel
theorem dL_isGiven_36 : decode cL_isGiven 36 = .ok (.iload_n 2, 1) := by decide +kernel
theorem dL_isGiven_37 : decode cL_isGiven 37 = .ok (.iload_n 2, 1) := by decide +kernel
theorem dL_isGiven_38 : decode cL_isGiven 38 = .ok (.iload_n 3, 1) := by decide +kernel
theorem dL_isGiven_39 : decode cL_isGiven 39 = .ok (.iadd, 1) := by decide +kernel
theorem dL_isGiven_40 : decode cL_isGiven 40 = .ok (.iload_n 1, 1) := by decide +kernel
theorem dL_isGiven_41 : decode cL_isGiven 41 = .ok (.aload 6, 2) := by decide +kernel
theorem dL_isGiven_43 : decode cL_isGiven 43 = .ok (.aload 7, 2) := by decide +kernel
theorem dL_isGiven_45 : decode cL_isGiven 45 = .ok (.invokestatic 66, 3) := by decide +kernel
theorem dL_isGiven_48 : decode cL_isGiven 48 = .ok (.iload_n 3, 1) := by decide +kernel
theorem dL_isGiven_49 : decode cL_isGiven 49 = .ok (.aload 4, 2) := by decide +kernel
theorem dL_isGiven_51 : decode cL_isGiven 51 = .ok (.aload 5, 2) := by decide +kernel
theorem dL_isGiven_53 : decode cL_isGiven 53 = .ok (.iload_n 2, 1) := by decide +kernel
theorem dL_isGiven_54 : decode cL_isGiven 54 = .ok (.iload_n 2, 1) := by decide +kernel
theorem dL_isGiven_55 : decode cL_isGiven 55 = .ok (.iload_n 3, 1) := by decide +kernel
theorem dL_isGiven_56 : decode cL_isGiven 56 = .ok (.iadd, 1) := by decide +kernel
theorem dL_isGiven_57 : decode cL_isGiven 57 = .ok (.iload_n 1, 1) := by decide +kernel
theorem dL_isGiven_58 : decode cL_isGiven 58 = .ok (.invokestatic 70, 3) := by decide +kernel
theorem dL_isGiven_61 : decode cL_isGiven 61 = .ok (.isub, 1) := by decide +kernel
theorem dL_isGiven_62 : decode cL_isGiven 62 = .ok (.istore 8, 2) := by decide +kernel
theorem dL_isGiven_64 : decode cL_isGiven 64 = .ok (.iload 8, 2) := by decide +kernel
theorem dL_isGiven_66 : decode cL_isGiven 66 = .ok (.ifCond .eq 23, 3) := by decide +kernel
theorem dL_isGiven_69 : decode cL_isGiven 69 = .ok (.aload 4, 2) := by decide +kernel
theorem dL_isGiven_71 : decode cL_isGiven 71 = .ok (.aload 5, 2) := by decide +kernel
theorem dL_isGiven_73 : decode cL_isGiven 73 = .ok (.iload_n 1, 1) := by decide +kernel
theorem dL_isGiven_74 : decode cL_isGiven 74 = .ok (.invokestatic 31, 3) := by decide +kernel
theorem dL_isGiven_77 : decode cL_isGiven 77 = .ok (.iload 8, 2) := by decide +kernel
theorem dL_isGiven_79 : decode cL_isGiven 79 = .ok (.iadd, 1) := by decide +kernel
theorem dL_isGiven_80 : decode cL_isGiven 80 = .ok (.aload_n 0, 1) := by decide +kernel
theorem dL_isGiven_81 : decode cL_isGiven 81 = .ok (.bipush 16, 2) := by decide +kernel
theorem dL_isGiven_83 : decode cL_isGiven 83 = .ok (.invokevirtual 8, 3) := by decide +kernel
theorem dL_isGiven_86 : decode cL_isGiven 86 = .ok (.if_icmp .gt 7, 3) := by decide +kernel
theorem dL_isGiven_89 : decode cL_isGiven 89 = .ok (.iconst 1, 1) := by decide +kernel
theorem dL_isGiven_90 : decode cL_isGiven 90 = .ok (.goto 4, 3) := by decide +kernel
theorem dL_isGiven_93 : decode cL_isGiven 93 = .ok (.iconst 0, 1) := by decide +kernel
theorem dL_isGiven_94 : decode cL_isGiven 94 = .ok (.istore 9, 2) := by decide +kernel
theorem dL_isGiven_96 : decode cL_isGiven 96 = .ok (.aload_n 0, 1) := by decide +kernel
theorem dL_isGiven_97 : decode cL_isGiven 97 = .ok (.iload_n 1, 1) := by decide +kernel
theorem dL_isGiven_98 : decode cL_isGiven 98 = .ok (.iload_n 2, 1) := by decide +kernel
theorem dL_isGiven_99 : decode cL_isGiven 99 = .ok (.iload_n 3, 1) := by decide +kernel
theorem dL_isGiven_100 : decode cL_isGiven 100 = .ok (.invokevirtual 74, 3) := by decide +kernel
theorem dL_isGiven_103 : decode cL_isGiven 103 = .ok (.istore 10, 2) := by decide +kernel
theorem dL_isGiven_105 : decode cL_isGiven 105 = .ok (.aload_n 0, 1) := by decide +kernel
theorem dL_isGiven_106 : decode cL_isGiven 106 = .ok (.iload_n 1, 1) := by decide +kernel
theorem dL_isGiven_107 : decode cL_isGiven 107 = .ok (.iload_n 2, 1) := by decide +kernel
theorem dL_isGiven_108 : decode cL_isGiven 108 = .ok (.iload_n 3, 1) := by decide +kernel
theorem dL_isGiven_109 : decode cL_isGiven 109 = .ok (.invokevirtual 78, 3) := by decide +kernel
theorem dL_isGiven_112 : decode cL_isGiven 112 = .ok (.istore 11, 2) := by decide +kernel
theorem dL_isGiven_114 : decode cL_isGiven 114 = .ok (.iload 10, 2) := by decide +kernel
theorem dL_isGiven_116 : decode cL_isGiven 116 = .ok (.aload 6, 2) := by decide +kernel
theorem dL_isGiven_118 : decode cL_isGiven 118 = .ok (.iconst 0, 1) := by decide +kernel
theorem dL_isGiven_119 : decode cL_isGiven 119 = .ok (.iaload, 1) := by decide +kernel
theorem dL_isGiven_120 : decode cL_isGiven 120 = .ok (.if_icmp .eq 5, 3) := by decide +kernel
theorem dL_isGiven_123 : decode cL_isGiven 123 = .ok (.iconst 0, 1) := by decide +kernel
theorem dL_isGiven_124 : decode cL_isGiven 124 = .ok (.ireturn, 1) := by decide +kernel
theorem dL_isGiven_125 : decode cL_isGiven 125 = .ok (.aload 6, 2) := by decide +kernel
theorem dL_isGiven_127 : decode cL_isGiven 127 = .ok (.iconst 0, 1) := by decide +kernel
theorem dL_isGiven_128 : decode cL_isGiven 128 = .ok (.iaload, 1) := by decide +kernel
theorem dL_isGiven_129 : decode cL_isGiven 129 = .ok (.bipush 40, 2) := by decide +kernel
theorem dL_isGiven_131 : decode cL_isGiven 131 = .ok (.if_icmp .gt 8, 3) := by decide +kernel
theorem dL_isGiven_134 : decode cL_isGiven 134 = .ok (.iload 9, 2) := by decide +kernel
theorem dL_isGiven_136 : decode cL_isGiven 136 = .ok (.ifCond .ne 41, 3) := by decide +kernel
theorem dL_isGiven_139 : decode cL_isGiven 139 = .ok (.iload 11, 2) := by decide +kernel
theorem dL_isGiven_141 : decode cL_isGiven 141 = .ok (.aload 6, 2) := by decide +kernel
theorem dL_isGiven_143 : decode cL_isGiven 143 = .ok (.iconst 0, 1) := by decide +kernel
theorem dL_isGiven_144 : decode cL_isGiven 144 = .ok (.iaload, 1) := by decide +kernel
theorem dL_isGiven_145 : decode cL_isGiven 145 = .ok (.bipush 40, 2) := by decide +kernel
theorem dL_isGiven_147 : decode cL_isGiven 147 = .ok (.if_icmp .le 8, 3) := by decide +kernel
theorem dL_isGiven_150 : decode cL_isGiven 150 = .ok (.bipush (-4), 2) := by decide +kernel
theorem dL_isGiven_152 : decode cL_isGiven 152 = .ok (.goto 5, 3) := by decide +kernel
theorem dL_isGiven_155 : decode cL_isGiven 155 = .ok (.bipush (-5), 2) := by decide +kernel
theorem dL_isGiven_157 : decode cL_isGiven 157 = .ok (.if_icmp .ne 18, 3) := by decide +kernel
theorem dL_isGiven_160 : decode cL_isGiven 160 = .ok (.aload_n 0, 1) := by decide +kernel
theorem dL_isGiven_161 : decode cL_isGiven 161 = .ok (.aload 4, 2) := by decide +kernel
theorem dL_isGiven_163 : decode cL_isGiven 163 = .ok (.aload 5, 2) := by decide +kernel
theorem dL_isGiven_165 : decode cL_isGiven 165 = .ok (.invokestatic 81, 3) := by decide +kernel
theorem dL_isGiven_168 : decode cL_isGiven 168 = .ok (.ifCond .eq 7, 3) := by decide +kernel
theorem dL_isGiven_171 : decode cL_isGiven 171 = .ok (.iconst 1, 1) := by decide +kernel
theorem dL_isGiven_172 : decode cL_isGiven 172 = .ok (.goto 4, 3) := by decide +kernel
theorem dL_isGiven_175 : decode cL_isGiven 175 = .ok (.iconst 0, 1) := by decide +kernel
theorem dL_isGiven_176 : decode cL_isGiven 176 = .ok (.ireturn, 1) := by decide +kernel
theorem dL_isGiven_177 : decode cL_isGiven 177 = .ok (.iload 11, 2) := by decide +kernel
theorem dL_isGiven_179 : decode cL_isGiven 179 = .ok (.aload 6, 2) := by decide +kernel
theorem dL_isGiven_181 : decode cL_isGiven 181 = .ok (.iconst 0, 1) := by decide +kernel
theorem dL_isGiven_182 : decode cL_isGiven 182 = .ok (.iaload, 1) := by decide +kernel
theorem dL_isGiven_183 : decode cL_isGiven 183 = .ok (.if_icmp .ne 18, 3) := by decide +kernel
theorem dL_isGiven_186 : decode cL_isGiven 186 = .ok (.aload_n 0, 1) := by decide +kernel
theorem dL_isGiven_187 : decode cL_isGiven 187 = .ok (.aload 6, 2) := by decide +kernel
theorem dL_isGiven_189 : decode cL_isGiven 189 = .ok (.aload 7, 2) := by decide +kernel
theorem dL_isGiven_191 : decode cL_isGiven 191 = .ok (.invokestatic 81, 3) := by decide +kernel
theorem dL_isGiven_194 : decode cL_isGiven 194 = .ok (.ifCond .eq 7, 3) := by decide +kernel
theorem dL_isGiven_197 : decode cL_isGiven 197 = .ok (.iconst 1, 1) := by decide +kernel
theorem dL_isGiven_198 : decode cL_isGiven 198 = .ok (.goto 4, 3) := by decide +kernel
theorem dL_isGiven_201 : decode cL_isGiven 201 = .ok (.iconst 0, 1) := by decide +kernel
theorem dL_isGiven_202 : decode cL_isGiven 202 = .ok (.ireturn, 1) := by decide +kernel
theorem dL_isFreed_0 : decode cL_isFreed 0 = .ok (.bipush 64, 2) := by decide +kernel
theorem dL_isFreed_2 : decode cL_isFreed 2 = .ok (.newarray .int, 2) := by decide +kernel
theorem dL_isFreed_4 : decode cL_isFreed 4 = .ok (.astore_n 3, 1) := by decide +kernel
theorem dL_isFreed_5 : decode cL_isFreed 5 = .ok (.bipush 64, 2) := by decide +kernel
theorem dL_isFreed_7 : decode cL_isFreed 7 = .ok (.newarray .int, 2) := by decide +kernel
theorem dL_isFreed_9 : decode cL_isFreed 9 = .ok (.astore 4, 2) := by decide +kernel
theorem dL_isFreed_11 : decode cL_isFreed 11 = .ok (.bipush 64, 2) := by decide +kernel
theorem dL_isFreed_13 : decode cL_isFreed 13 = .ok (.newarray .int, 2) := by decide +kernel
theorem dL_isFreed_15 : decode cL_isFreed 15 = .ok (.astore 5, 2) := by decide +kernel
theorem dL_isFreed_17 : decode cL_isFreed 17 = .ok (.bipush 64, 2) := by decide +kernel
theorem dL_isFreed_19 : decode cL_isFreed 19 = .ok (.newarray .int, 2) := by decide +kernel
theorem dL_isFreed_21 : decode cL_isFreed 21 = .ok (.astore 6, 2) := by decide +kernel
theorem dL_isFreed_23 : decode cL_isFreed 23 = .ok (.aload_n 0, 1) := by decide +kernel
theorem dL_isFreed_24 : decode cL_isFreed 24 = .ok (.aload_n 3, 1) := by decide +kernel
theorem dL_isFreed_25 : decode cL_isFreed 25 = .ok (.aload 4, 2) := by decide +kernel
theorem dL_isFreed_27 : decode cL_isFreed 27 = .ok (.invokestatic 45, 3) := by decide +kernel
theorem dL_isFreed_30 : decode cL_isFreed 30 = .ok (.aload_n 3, 1) := by decide +kernel
theorem dL_isFreed_31 : decode cL_isFreed 31 = .ok (.aload 4, 2) := by decide +kernel
theorem dL_isFreed_33 : decode cL_isFreed 33 = .ok (.iload_n 1, 1) := by decide +kernel
theorem dL_isFreed_34 : decode cL_isFreed 34 = .ok (.iload_n 1, 1) := by decide +kernel
theorem dL_isFreed_35 : decode cL_isFreed 35 = .ok (.iload_n 2, 1) := by decide +kernel
theorem dL_isFreed_36 : decode cL_isFreed 36 = .ok (.iadd, 1) := by decide +kernel
theorem dL_isFreed_37 : decode cL_isFreed 37 = .ok (.bipush (-6), 2) := by decide +kernel
theorem dL_isFreed_39 : decode cL_isFreed 39 = .ok (.aload 5, 2) := by decide +kernel
theorem dL_isFreed_41 : decode cL_isFreed 41 = .ok (.aload 6, 2) := by decide +kernel
theorem dL_isFreed_43 : decode cL_isFreed 43 = .ok (.invokestatic 66, 3) := by decide +kernel
theorem dL_isFreed_46 : decode cL_isFreed 46 = .ok (.aload_n 0, 1) := by decide +kernel
theorem dL_isFreed_47 : decode cL_isFreed 47 = .ok (.iload_n 1, 1) := by decide +kernel
theorem dL_isFreed_48 : decode cL_isFreed 48 = .ok (.iload_n 2, 1) := by decide +kernel
theorem dL_isFreed_49 : decode cL_isFreed 49 = .ok (.invokevirtual 85, 3) := by decide +kernel
theorem dL_isFreed_52 : decode cL_isFreed 52 = .ok (.istore 7, 2) := by decide +kernel
theorem dL_isFreed_54 : decode cL_isFreed 54 = .ok (.aload 5, 2) := by decide +kernel
theorem dL_isFreed_56 : decode cL_isFreed 56 = .ok (.iconst 0, 1) := by decide +kernel
theorem dL_isFreed_57 : decode cL_isFreed 57 = .ok (.iaload, 1) := by decide +kernel
theorem dL_isFreed_58 : decode cL_isFreed 58 = .ok (.bipush 40, 2) := by decide +kernel
theorem dL_isFreed_60 : decode cL_isFreed 60 = .ok (.if_icmp .le 28, 3) := by decide +kernel
theorem dL_isFreed_63 : decode cL_isFreed 63 = .ok (.iload 7, 2) := by decide +kernel
theorem dL_isFreed_65 : decode cL_isFreed 65 = .ok (.bipush (-4), 2) := by decide +kernel
theorem dL_isFreed_67 : decode cL_isFreed 67 = .ok (.if_icmp .ne 17, 3) := by decide +kernel
theorem dL_isFreed_70 : decode cL_isFreed 70 = .ok (.aload_n 0, 1) := by decide +kernel
theorem dL_isFreed_71 : decode cL_isFreed 71 = .ok (.aload_n 3, 1) := by decide +kernel
theorem dL_isFreed_72 : decode cL_isFreed 72 = .ok (.aload 4, 2) := by decide +kernel
theorem dL_isFreed_74 : decode cL_isFreed 74 = .ok (.invokestatic 81, 3) := by decide +kernel
theorem dL_isFreed_77 : decode cL_isFreed 77 = .ok (.ifCond .eq 7, 3) := by decide +kernel
theorem dL_isFreed_80 : decode cL_isFreed 80 = .ok (.iconst 1, 1) := by decide +kernel
theorem dL_isFreed_81 : decode cL_isFreed 81 = .ok (.goto 32, 3) := by decide +kernel
theorem dL_isFreed_84 : decode cL_isFreed 84 = .ok (.iconst 0, 1) := by decide +kernel
theorem dL_isFreed_85 : decode cL_isFreed 85 = .ok (.goto 28, 3) := by decide +kernel
theorem dL_isFreed_88 : decode cL_isFreed 88 = .ok (.iload 7, 2) := by decide +kernel
theorem dL_isFreed_90 : decode cL_isFreed 90 = .ok (.aload 5, 2) := by decide +kernel
theorem dL_isFreed_92 : decode cL_isFreed 92 = .ok (.iconst 0, 1) := by decide +kernel
theorem dL_isFreed_93 : decode cL_isFreed 93 = .ok (.iaload, 1) := by decide +kernel
theorem dL_isFreed_94 : decode cL_isFreed 94 = .ok (.if_icmp .ne 18, 3) := by decide +kernel
theorem dL_isFreed_97 : decode cL_isFreed 97 = .ok (.aload_n 0, 1) := by decide +kernel
theorem dL_isFreed_98 : decode cL_isFreed 98 = .ok (.aload 5, 2) := by decide +kernel
theorem dL_isFreed_100 : decode cL_isFreed 100 = .ok (.aload 6, 2) := by decide +kernel
theorem dL_isFreed_102 : decode cL_isFreed 102 = .ok (.invokestatic 81, 3) := by decide +kernel
theorem dL_isFreed_105 : decode cL_isFreed 105 = .ok (.ifCond .eq 7, 3) := by decide +kernel
theorem dL_isFreed_108 : decode cL_isFreed 108 = .ok (.iconst 1, 1) := by decide +kernel
theorem dL_isFreed_109 : decode cL_isFreed 109 = .ok (.goto 4, 3) := by decide +kernel
theorem dL_isFreed_112 : decode cL_isFreed 112 = .ok (.iconst 0, 1) := by decide +kernel
theorem dL_isFreed_113 : decode cL_isFreed 113 = .ok (.ireturn, 1) := by decide +kernel
theorem dL_hole_0 : decode cL_hole 0 = .ok (.iconst 0, 1) := by decide +kernel
theorem dL_hole_1 : decode cL_hole 1 = .ok (.istore_n 3, 1) := by decide +kernel
theorem dL_hole_2 : decode cL_hole 2 = .ok (.iconst 0, 1) := by decide +kernel
theorem dL_hole_3 : decode cL_hole 3 = .ok (.istore 4, 2) := by decide +kernel
theorem dL_hole_5 : decode cL_hole 5 = .ok (.iload 4, 2) := by decide +kernel
theorem dL_hole_7 : decode cL_hole 7 = .ok (.aload_n 0, 1) := by decide +kernel
theorem dL_hole_8 : decode cL_hole 8 = .ok (.iconst 0, 1) := by decide +kernel
theorem dL_hole_9 : decode cL_hole 9 = .ok (.iaload, 1) := by decide +kernel
theorem dL_hole_10 : decode cL_hole 10 = .ok (.if_icmp .gt 60, 3) := by decide +kernel
theorem dL_hole_13 : decode cL_hole 13 = .ok (.iload 4, 2) := by decide +kernel
theorem dL_hole_15 : decode cL_hole 15 = .ok (.aload_n 0, 1) := by decide +kernel
theorem dL_hole_16 : decode cL_hole 16 = .ok (.iconst 0, 1) := by decide +kernel
theorem dL_hole_17 : decode cL_hole 17 = .ok (.iaload, 1) := by decide +kernel
theorem dL_hole_18 : decode cL_hole 18 = .ok (.if_icmp .ge 12, 3) := by decide +kernel
theorem dL_hole_21 : decode cL_hole 21 = .ok (.aload_n 0, 1) := by decide +kernel
theorem dL_hole_22 : decode cL_hole 22 = .ok (.iload 4, 2) := by decide +kernel
theorem dL_hole_24 : decode cL_hole 24 = .ok (.invokestatic 18, 3) := by decide +kernel
theorem dL_hole_27 : decode cL_hole 27 = .ok (.goto 6, 3) := by decide +kernel
theorem dL_hole_30 : decode cL_hole 30 = .ok (.sipush 10000, 3) := by decide +kernel
theorem dL_hole_33 : decode cL_hole 33 = .ok (.istore 5, 2) := by decide +kernel
theorem dL_hole_35 : decode cL_hole 35 = .ok (.iload 5, 2) := by decide +kernel
theorem dL_hole_37 : decode cL_hole 37 = .ok (.iload_n 3, 1) := by decide +kernel
theorem dL_hole_38 : decode cL_hole 38 = .ok (.isub, 1) := by decide +kernel
theorem dL_hole_39 : decode cL_hole 39 = .ok (.iload_n 2, 1) := by decide +kernel
theorem dL_hole_40 : decode cL_hole 40 = .ok (.if_icmp .lt 5, 3) := by decide +kernel
theorem dL_hole_43 : decode cL_hole 43 = .ok (.iload_n 3, 1) := by decide +kernel
theorem dL_hole_44 : decode cL_hole 44 = .ok (.ireturn, 1) := by decide +kernel
theorem dL_hole_45 : decode cL_hole 45 = .ok (.iload 4, 2) := by decide +kernel
theorem dL_hole_47 : decode cL_hole 47 = .ok (.aload_n 0, 1) := by decide +kernel
theorem dL_hole_48 : decode cL_hole 48 = .ok (.iconst 0, 1) := by decide +kernel
theorem dL_hole_49 : decode cL_hole 49 = .ok (.iaload, 1) := by decide +kernel
theorem dL_hole_50 : decode cL_hole 50 = .ok (.if_icmp .ge 12, 3) := by decide +kernel
theorem dL_hole_53 : decode cL_hole 53 = .ok (.aload_n 1, 1) := by decide +kernel
theorem dL_hole_54 : decode cL_hole 54 = .ok (.iconst 1, 1) := by decide +kernel
theorem dL_hole_55 : decode cL_hole 55 = .ok (.iload 4, 2) := by decide +kernel
theorem dL_hole_57 : decode cL_hole 57 = .ok (.iadd, 1) := by decide +kernel
theorem dL_hole_58 : decode cL_hole 58 = .ok (.iaload, 1) := by decide +kernel
theorem dL_hole_59 : decode cL_hole 59 = .ok (.goto 4, 3) := by decide +kernel
theorem dL_hole_62 : decode cL_hole 62 = .ok (.iload_n 3, 1) := by decide +kernel
theorem dL_hole_63 : decode cL_hole 63 = .ok (.istore_n 3, 1) := by decide +kernel
theorem dL_hole_64 : decode cL_hole 64 = .ok (.iinc 4 1, 3) := by decide +kernel
theorem dL_hole_67 : decode cL_hole 67 = .ok (.goto (-62), 3) := by decide +kernel
theorem dL_hole_70 : decode cL_hole 70 = .ok (.bipush (-6), 2) := by decide +kernel
theorem dL_hole_72 : decode cL_hole 72 = .ok (.ireturn, 1) := by decide +kernel
theorem dL_isGrabbed_0 : decode cL_isGrabbed 0 = .ok (.bipush 64, 2) := by decide +kernel
theorem dL_isGrabbed_2 : decode cL_isGrabbed 2 = .ok (.newarray .int, 2) := by decide +kernel
theorem dL_isGrabbed_4 : decode cL_isGrabbed 4 = .ok (.astore_n 3, 1) := by decide +kernel
theorem dL_isGrabbed_5 : decode cL_isGrabbed 5 = .ok (.bipush 64, 2) := by decide +kernel
theorem dL_isGrabbed_7 : decode cL_isGrabbed 7 = .ok (.newarray .int, 2) := by decide +kernel
theorem dL_isGrabbed_9 : decode cL_isGrabbed 9 = .ok (.astore 4, 2) := by decide +kernel
theorem dL_isGrabbed_11 : decode cL_isGrabbed 11 = .ok (.bipush 64, 2) := by decide +kernel
theorem dL_isGrabbed_13 : decode cL_isGrabbed 13 = .ok (.newarray .int, 2) := by decide +kernel
theorem dL_isGrabbed_15 : decode cL_isGrabbed 15 = .ok (.astore 5, 2) := by decide +kernel
theorem dL_isGrabbed_17 : decode cL_isGrabbed 17 = .ok (.bipush 64, 2) := by decide +kernel
theorem dL_isGrabbed_19 : decode cL_isGrabbed 19 = .ok (.newarray .int, 2) := by decide +kernel
theorem dL_isGrabbed_21 : decode cL_isGrabbed 21 = .ok (.astore 6, 2) := by decide +kernel
theorem dL_isGrabbed_23 : decode cL_isGrabbed 23 = .ok (.aload_n 0, 1) := by decide +kernel
theorem dL_isGrabbed_24 : decode cL_isGrabbed 24 = .ok (.aload_n 3, 1) := by decide +kernel
theorem dL_isGrabbed_25 : decode cL_isGrabbed 25 = .ok (.aload 4, 2) := by decide +kernel
theorem dL_isGrabbed_27 : decode cL_isGrabbed 27 = .ok (.invokestatic 45, 3) := by decide +kernel
theorem dL_isGrabbed_30 : decode cL_isGrabbed 30 = .ok (.aload_n 3, 1) := by decide +kernel
theorem dL_isGrabbed_31 : decode cL_isGrabbed 31 = .ok (.aload 4, 2) := by decide +kernel
theorem dL_isGrabbed_33 : decode cL_isGrabbed 33 = .ok (.iload_n 2, 1) := by decide +kernel
theorem dL_isGrabbed_34 : decode cL_isGrabbed 34 = .ok (.invokestatic 88, 3) := by decide +kernel
theorem dL_isGrabbed_37 : decode cL_isGrabbed 37 = .ok (.istore 7, 2) := by decide +kernel
theorem dL_isGrabbed_39 : decode cL_isGrabbed 39 = .ok (.aload_n 0, 1) := by decide +kernel
theorem dL_isGrabbed_40 : decode cL_isGrabbed 40 = .ok (.iload_n 2, 1) := by decide +kernel
theorem dL_isGrabbed_41 : decode cL_isGrabbed 41 = .ok (.iconst 0, 1) := by decide +kernel
theorem dL_isGrabbed_42 : decode cL_isGrabbed 42 = .ok (.invokevirtual 52, 3) := by decide +kernel
theorem dL_isGrabbed_45 : decode cL_isGrabbed 45 = .ok (.iload 7, 2) := by decide +kernel
theorem dL_isGrabbed_47 : decode cL_isGrabbed 47 = .ok (.if_icmp .eq 5, 3) := by decide +kernel
theorem dL_isGrabbed_50 : decode cL_isGrabbed 50 = .ok (.iconst 0, 1) := by decide +kernel
theorem dL_isGrabbed_51 : decode cL_isGrabbed 51 = .ok (.ireturn, 1) := by decide +kernel
theorem dL_isGrabbed_52 : decode cL_isGrabbed 52 = .ok (.aload_n 3, 1) := by decide +kernel
theorem dL_isGrabbed_53 : decode cL_isGrabbed 53 = .ok (.aload 4, 2) := by decide +kernel
theorem dL_isGrabbed_55 : decode cL_isGrabbed 55 = .ok (.iload_n 1, 1) := by decide +kernel
theorem dL_isGrabbed_56 : decode cL_isGrabbed 56 = .ok (.invokestatic 31, 3) := by decide +kernel
theorem dL_isGrabbed_59 : decode cL_isGrabbed 59 = .ok (.istore 8, 2) := by decide +kernel
theorem dL_isGrabbed_61 : decode cL_isGrabbed 61 = .ok (.aload_n 0, 1) := by decide +kernel
theorem dL_isGrabbed_62 : decode cL_isGrabbed 62 = .ok (.iload_n 1, 1) := by decide +kernel
theorem dL_isGrabbed_63 : decode cL_isGrabbed 63 = .ok (.iload_n 2, 1) := by decide +kernel
theorem dL_isGrabbed_64 : decode cL_isGrabbed 64 = .ok (.invokevirtual 90, 3) := by decide +kernel
theorem dL_isGrabbed_67 : decode cL_isGrabbed 67 = .ok (.istore 9, 2) := by decide +kernel
theorem dL_isGrabbed_69 : decode cL_isGrabbed 69 = .ok (.iload 7, 2) := by decide +kernel
theorem dL_isGrabbed_71 : decode cL_isGrabbed 71 = .ok (.ifCond .ge 26, 3) := by decide +kernel
theorem dL_isGrabbed_74 : decode cL_isGrabbed 74 = .ok (.iload 9, 2) := by decide +kernel
theorem dL_isGrabbed_76 : decode cL_isGrabbed 76 = .ok (.bipush (-5), 2) := by decide +kernel
theorem dL_isGrabbed_78 : decode cL_isGrabbed 78 = .ok (.if_icmp .ne 17, 3) := by decide +kernel
theorem dL_isGrabbed_81 : decode cL_isGrabbed 81 = .ok (.aload_n 0, 1) := by decide +kernel
theorem dL_isGrabbed_82 : decode cL_isGrabbed 82 = .ok (.aload_n 3, 1) := by decide +kernel
theorem dL_isGrabbed_83 : decode cL_isGrabbed 83 = .ok (.aload 4, 2) := by decide +kernel
theorem dL_isGrabbed_85 : decode cL_isGrabbed 85 = .ok (.invokestatic 81, 3) := by decide +kernel
theorem dL_isGrabbed_88 : decode cL_isGrabbed 88 = .ok (.ifCond .eq 7, 3) := by decide +kernel
theorem dL_isGrabbed_91 : decode cL_isGrabbed 91 = .ok (.iconst 1, 1) := by decide +kernel
theorem dL_isGrabbed_92 : decode cL_isGrabbed 92 = .ok (.goto 4, 3) := by decide +kernel
theorem dL_isGrabbed_95 : decode cL_isGrabbed 95 = .ok (.iconst 0, 1) := by decide +kernel
theorem dL_isGrabbed_96 : decode cL_isGrabbed 96 = .ok (.ireturn, 1) := by decide +kernel
theorem dL_isGrabbed_97 : decode cL_isGrabbed 97 = .ok (.aload_n 3, 1) := by decide +kernel
theorem dL_isGrabbed_98 : decode cL_isGrabbed 98 = .ok (.aload 4, 2) := by decide +kernel
theorem dL_isGrabbed_100 : decode cL_isGrabbed 100 = .ok (.iload 7, 2) := by decide +kernel
theorem dL_isGrabbed_102 : decode cL_isGrabbed 102 = .ok (.iload 7, 2) := by decide +kernel
theorem dL_isGrabbed_104 : decode cL_isGrabbed 104 = .ok (.iload_n 2, 1) := by decide +kernel
theorem dL_isGrabbed_105 : decode cL_isGrabbed 105 = .ok (.iadd, 1) := by decide +kernel
theorem dL_isGrabbed_106 : decode cL_isGrabbed 106 = .ok (.iload_n 1, 1) := by decide +kernel
theorem dL_isGrabbed_107 : decode cL_isGrabbed 107 = .ok (.aload 5, 2) := by decide +kernel
theorem dL_isGrabbed_109 : decode cL_isGrabbed 109 = .ok (.aload 6, 2) := by decide +kernel
theorem dL_isGrabbed_111 : decode cL_isGrabbed 111 = .ok (.invokestatic 66, 3) := by decide +kernel
theorem dL_isGrabbed_114 : decode cL_isGrabbed 114 = .ok (.aload 5, 2) := by decide +kernel
theorem dL_isGrabbed_116 : decode cL_isGrabbed 116 = .ok (.iconst 0, 1) := by decide +kernel
theorem dL_isGrabbed_117 : decode cL_isGrabbed 117 = .ok (.iaload, 1) := by decide +kernel
theorem dL_isGrabbed_118 : decode cL_isGrabbed 118 = .ok (.bipush 40, 2) := by decide +kernel
theorem dL_isGrabbed_120 : decode cL_isGrabbed 120 = .ok (.if_icmp .gt 16, 3) := by decide +kernel
theorem dL_isGrabbed_123 : decode cL_isGrabbed 123 = .ok (.iload 8, 2) := by decide +kernel
theorem dL_isGrabbed_125 : decode cL_isGrabbed 125 = .ok (.iload_n 2, 1) := by decide +kernel
theorem dL_isGrabbed_126 : decode cL_isGrabbed 126 = .ok (.iadd, 1) := by decide +kernel
theorem dL_isGrabbed_127 : decode cL_isGrabbed 127 = .ok (.aload_n 0, 1) := by decide +kernel
theorem dL_isGrabbed_128 : decode cL_isGrabbed 128 = .ok (.bipush 16, 2) := by decide +kernel
theorem dL_isGrabbed_130 : decode cL_isGrabbed 130 = .ok (.invokevirtual 8, 3) := by decide +kernel
theorem dL_isGrabbed_133 : decode cL_isGrabbed 133 = .ok (.if_icmp .le 40, 3) := by decide +kernel
theorem dL_isGrabbed_136 : decode cL_isGrabbed 136 = .ok (.iload 9, 2) := by decide +kernel
theorem dL_isGrabbed_138 : decode cL_isGrabbed 138 = .ok (.aload 5, 2) := by decide +kernel
theorem dL_isGrabbed_140 : decode cL_isGrabbed 140 = .ok (.iconst 0, 1) := by decide +kernel
theorem dL_isGrabbed_141 : decode cL_isGrabbed 141 = .ok (.iaload, 1) := by decide +kernel
theorem dL_isGrabbed_142 : decode cL_isGrabbed 142 = .ok (.bipush 40, 2) := by decide +kernel
theorem dL_isGrabbed_144 : decode cL_isGrabbed 144 = .ok (.if_icmp .le 8, 3) := by decide +kernel
theorem dL_isGrabbed_147 : decode cL_isGrabbed 147 = .ok (.bipush (-4), 2) := by decide +kernel
theorem dL_isGrabbed_149 : decode cL_isGrabbed 149 = .ok (.goto 5, 3) := by decide +kernel
theorem dL_isGrabbed_152 : decode cL_isGrabbed 152 = .ok (.bipush (-5), 2) := by decide +kernel
theorem dL_isGrabbed_154 : decode cL_isGrabbed 154 = .ok (.if_icmp .ne 17, 3) := by decide +kernel
theorem dL_isGrabbed_157 : decode cL_isGrabbed 157 = .ok (.aload_n 0, 1) := by decide +kernel
theorem dL_isGrabbed_158 : decode cL_isGrabbed 158 = .ok (.aload_n 3, 1) := by decide +kernel
theorem dL_isGrabbed_159 : decode cL_isGrabbed 159 = .ok (.aload 4, 2) := by decide +kernel
theorem dL_isGrabbed_161 : decode cL_isGrabbed 161 = .ok (.invokestatic 81, 3) := by decide +kernel
theorem dL_isGrabbed_164 : decode cL_isGrabbed 164 = .ok (.ifCond .eq 7, 3) := by decide +kernel
theorem dL_isGrabbed_167 : decode cL_isGrabbed 167 = .ok (.iconst 1, 1) := by decide +kernel
theorem dL_isGrabbed_168 : decode cL_isGrabbed 168 = .ok (.goto 4, 3) := by decide +kernel
theorem dL_isGrabbed_171 : decode cL_isGrabbed 171 = .ok (.iconst 0, 1) := by decide +kernel
theorem dL_isGrabbed_172 : decode cL_isGrabbed 172 = .ok (.ireturn, 1) := by decide +kernel
theorem dL_isGrabbed_173 : decode cL_isGrabbed 173 = .ok (.iload 9, 2) := by decide +kernel
theorem dL_isGrabbed_175 : decode cL_isGrabbed 175 = .ok (.iload 7, 2) := by decide +kernel
theorem dL_isGrabbed_177 : decode cL_isGrabbed 177 = .ok (.if_icmp .ne 18, 3) := by decide +kernel
theorem dL_isGrabbed_180 : decode cL_isGrabbed 180 = .ok (.aload_n 0, 1) := by decide +kernel
theorem dL_isGrabbed_181 : decode cL_isGrabbed 181 = .ok (.aload 5, 2) := by decide +kernel
theorem dL_isGrabbed_183 : decode cL_isGrabbed 183 = .ok (.aload 6, 2) := by decide +kernel
theorem dL_isGrabbed_185 : decode cL_isGrabbed 185 = .ok (.invokestatic 81, 3) := by decide +kernel
theorem dL_isGrabbed_188 : decode cL_isGrabbed 188 = .ok (.ifCond .eq 7, 3) := by decide +kernel
theorem dL_isGrabbed_191 : decode cL_isGrabbed 191 = .ok (.iconst 1, 1) := by decide +kernel
theorem dL_isGrabbed_192 : decode cL_isGrabbed 192 = .ok (.goto 4, 3) := by decide +kernel
theorem dL_isGrabbed_195 : decode cL_isGrabbed 195 = .ok (.iconst 0, 1) := by decide +kernel
theorem dL_isGrabbed_196 : decode cL_isGrabbed 196 = .ok (.ireturn, 1) := by decide +kernel
theorem dL_isInherited_0 : decode cL_isInherited 0 = .ok (.iload_n 1, 1) := by decide +kernel
theorem dL_isInherited_1 : decode cL_isInherited 1 = .ok (.iload_n 2, 1) := by decide +kernel
theorem dL_isInherited_2 : decode cL_isInherited 2 = .ok (.if_icmp .ne 19, 3) := by decide +kernel
theorem dL_isInherited_5 : decode cL_isInherited 5 = .ok (.aload_n 0, 1) := by decide +kernel
theorem dL_isInherited_6 : decode cL_isInherited 6 = .ok (.iload_n 1, 1) := by decide +kernel
theorem dL_isInherited_7 : decode cL_isInherited 7 = .ok (.iload_n 2, 1) := by decide +kernel
theorem dL_isInherited_8 : decode cL_isInherited 8 = .ok (.invokevirtual 93, 3) := by decide +kernel
theorem dL_isInherited_11 : decode cL_isInherited 11 = .ok (.iconst (-1), 1) := by decide +kernel
theorem dL_isInherited_12 : decode cL_isInherited 12 = .ok (.if_icmp .ne 7, 3) := by decide +kernel
theorem dL_isInherited_15 : decode cL_isInherited 15 = .ok (.iconst 1, 1) := by decide +kernel
theorem dL_isInherited_16 : decode cL_isInherited 16 = .ok (.goto 4, 3) := by decide +kernel
theorem dL_isInherited_19 : decode cL_isInherited 19 = .ok (.iconst 0, 1) := by decide +kernel
theorem dL_isInherited_20 : decode cL_isInherited 20 = .ok (.ireturn, 1) := by decide +kernel
theorem dL_isInherited_21 : decode cL_isInherited 21 = .ok (.bipush 64, 2) := by decide +kernel
theorem dL_isInherited_23 : decode cL_isInherited 23 = .ok (.newarray .int, 2) := by decide +kernel
theorem dL_isInherited_25 : decode cL_isInherited 25 = .ok (.astore_n 3, 1) := by decide +kernel
theorem dL_isInherited_26 : decode cL_isInherited 26 = .ok (.bipush 64, 2) := by decide +kernel
theorem dL_isInherited_28 : decode cL_isInherited 28 = .ok (.newarray .int, 2) := by decide +kernel
theorem dL_isInherited_30 : decode cL_isInherited 30 = .ok (.astore 4, 2) := by decide +kernel
theorem dL_isInherited_32 : decode cL_isInherited 32 = .ok (.bipush 64, 2) := by decide +kernel
theorem dL_isInherited_34 : decode cL_isInherited 34 = .ok (.newarray .int, 2) := by decide +kernel
theorem dL_isInherited_36 : decode cL_isInherited 36 = .ok (.astore 5, 2) := by decide +kernel
theorem dL_isInherited_38 : decode cL_isInherited 38 = .ok (.bipush 64, 2) := by decide +kernel
theorem dL_isInherited_40 : decode cL_isInherited 40 = .ok (.newarray .int, 2) := by decide +kernel
theorem dL_isInherited_42 : decode cL_isInherited 42 = .ok (.astore 6, 2) := by decide +kernel
theorem dL_isInherited_44 : decode cL_isInherited 44 = .ok (.aload_n 0, 1) := by decide +kernel
theorem dL_isInherited_45 : decode cL_isInherited 45 = .ok (.aload_n 3, 1) := by decide +kernel
theorem dL_isInherited_46 : decode cL_isInherited 46 = .ok (.aload 4, 2) := by decide +kernel
theorem dL_isInherited_48 : decode cL_isInherited 48 = .ok (.invokestatic 45, 3) := by decide +kernel
theorem dL_isInherited_51 : decode cL_isInherited 51 = .ok (.aload_n 3, 1) := by decide +kernel
theorem dL_isInherited_52 : decode cL_isInherited 52 = .ok (.aload 4, 2) := by decide +kernel
theorem dL_isInherited_54 : decode cL_isInherited 54 = .ok (.iload_n 1, 1) := by decide +kernel
theorem dL_isInherited_55 : decode cL_isInherited 55 = .ok (.invokestatic 31, 3) := by decide +kernel
theorem dL_isInherited_58 : decode cL_isInherited 58 = .ok (.istore 7, 2) := by decide +kernel
theorem dL_isInherited_60 : decode cL_isInherited 60 = .ok (.iload 7, 2) := by decide +kernel
theorem dL_isInherited_62 : decode cL_isInherited 62 = .ok (.ifCond .eq 22, 3) := by decide +kernel
theorem dL_isInherited_65 : decode cL_isInherited 65 = .ok (.iload 7, 2) := by decide +kernel
theorem dL_isInherited_67 : decode cL_isInherited 67 = .ok (.aload_n 3, 1) := by decide +kernel
theorem dL_isInherited_68 : decode cL_isInherited 68 = .ok (.aload 4, 2) := by decide +kernel
theorem dL_isInherited_70 : decode cL_isInherited 70 = .ok (.iload_n 2, 1) := by decide +kernel
theorem dL_isInherited_71 : decode cL_isInherited 71 = .ok (.invokestatic 31, 3) := by decide +kernel
theorem dL_isInherited_74 : decode cL_isInherited 74 = .ok (.iadd, 1) := by decide +kernel
theorem dL_isInherited_75 : decode cL_isInherited 75 = .ok (.aload_n 0, 1) := by decide +kernel
theorem dL_isInherited_76 : decode cL_isInherited 76 = .ok (.bipush 16, 2) := by decide +kernel
theorem dL_isInherited_78 : decode cL_isInherited 78 = .ok (.invokevirtual 8, 3) := by decide +kernel
theorem dL_isInherited_81 : decode cL_isInherited 81 = .ok (.if_icmp .gt 7, 3) := by decide +kernel
theorem dL_isInherited_84 : decode cL_isInherited 84 = .ok (.iconst 1, 1) := by decide +kernel
theorem dL_isInherited_85 : decode cL_isInherited 85 = .ok (.goto 4, 3) := by decide +kernel
theorem dL_isInherited_88 : decode cL_isInherited 88 = .ok (.iconst 0, 1) := by decide +kernel
theorem dL_isInherited_89 : decode cL_isInherited 89 = .ok (.istore 8, 2) := by decide +kernel
theorem dL_isInherited_91 : decode cL_isInherited 91 = .ok (.aload_n 0, 1) := by decide +kernel
theorem dL_isInherited_92 : decode cL_isInherited 92 = .ok (.iload_n 1, 1) := by decide +kernel
theorem dL_isInherited_93 : decode cL_isInherited 93 = .ok (.iload_n 2, 1) := by decide +kernel
theorem dL_isInherited_94 : decode cL_isInherited 94 = .ok (.invokevirtual 93, 3) := by decide +kernel
theorem dL_isInherited_97 : decode cL_isInherited 97 = .ok (.istore 9, 2) := by decide +kernel
theorem dL_isInherited_99 : decode cL_isInherited 99 = .ok (.iload 8, 2) := by decide +kernel
theorem dL_isInherited_101 : decode cL_isInherited 101 = .ok (.ifCond .ne 26, 3) := by decide +kernel
theorem dL_isInherited_104 : decode cL_isInherited 104 = .ok (.iload 9, 2) := by decide +kernel
theorem dL_isInherited_106 : decode cL_isInherited 106 = .ok (.bipush (-5), 2) := by decide +kernel
theorem dL_isInherited_108 : decode cL_isInherited 108 = .ok (.if_icmp .ne 17, 3) := by decide +kernel
theorem dL_isInherited_111 : decode cL_isInherited 111 = .ok (.aload_n 0, 1) := by decide +kernel
theorem dL_isInherited_112 : decode cL_isInherited 112 = .ok (.aload_n 3, 1) := by decide +kernel
theorem dL_isInherited_113 : decode cL_isInherited 113 = .ok (.aload 4, 2) := by decide +kernel
theorem dL_isInherited_115 : decode cL_isInherited 115 = .ok (.invokestatic 81, 3) := by decide +kernel
theorem dL_isInherited_118 : decode cL_isInherited 118 = .ok (.ifCond .eq 7, 3) := by decide +kernel
theorem dL_isInherited_121 : decode cL_isInherited 121 = .ok (.iconst 1, 1) := by decide +kernel
theorem dL_isInherited_122 : decode cL_isInherited 122 = .ok (.goto 4, 3) := by decide +kernel
theorem dL_isInherited_125 : decode cL_isInherited 125 = .ok (.iconst 0, 1) := by decide +kernel
theorem dL_isInherited_126 : decode cL_isInherited 126 = .ok (.ireturn, 1) := by decide +kernel
theorem dL_isInherited_127 : decode cL_isInherited 127 = .ok (.iconst 0, 1) := by decide +kernel
theorem dL_isInherited_128 : decode cL_isInherited 128 = .ok (.istore 10, 2) := by decide +kernel
theorem dL_isInherited_130 : decode cL_isInherited 130 = .ok (.iconst 0, 1) := by decide +kernel
theorem dL_isInherited_131 : decode cL_isInherited 131 = .ok (.istore 11, 2) := by decide +kernel
theorem dL_isInherited_133 : decode cL_isInherited 133 = .ok (.iload 11, 2) := by decide +kernel
theorem dL_isInherited_135 : decode cL_isInherited 135 = .ok (.aload_n 3, 1) := by decide +kernel
theorem dL_isInherited_136 : decode cL_isInherited 136 = .ok (.iconst 0, 1) := by decide +kernel
theorem dL_isInherited_137 : decode cL_isInherited 137 = .ok (.iaload, 1) := by decide +kernel
theorem dL_isInherited_138 : decode cL_isInherited 138 = .ok (.if_icmp .ge 53, 3) := by decide +kernel
theorem dL_isInherited_141 : decode cL_isInherited 141 = .ok (.aload 5, 2) := by decide +kernel
theorem dL_isInherited_143 : decode cL_isInherited 143 = .ok (.aload 6, 2) := by decide +kernel
theorem dL_isInherited_145 : decode cL_isInherited 145 = .ok (.iload 10, 2) := by decide +kernel
theorem dL_isInherited_147 : decode cL_isInherited 147 = .ok (.aload_n 3, 1) := by decide +kernel
theorem dL_isInherited_148 : decode cL_isInherited 148 = .ok (.iload 11, 2) := by decide +kernel
theorem dL_isInherited_150 : decode cL_isInherited 150 = .ok (.invokestatic 18, 3) := by decide +kernel
theorem dL_isInherited_153 : decode cL_isInherited 153 = .ok (.aload 4, 2) := by decide +kernel
theorem dL_isInherited_155 : decode cL_isInherited 155 = .ok (.iconst 1, 1) := by decide +kernel
theorem dL_isInherited_156 : decode cL_isInherited 156 = .ok (.iload 11, 2) := by decide +kernel
theorem dL_isInherited_158 : decode cL_isInherited 158 = .ok (.iadd, 1) := by decide +kernel
theorem dL_isInherited_159 : decode cL_isInherited 159 = .ok (.iaload, 1) := by decide +kernel
theorem dL_isInherited_160 : decode cL_isInherited 160 = .ok (.aload_n 3, 1) := by decide +kernel
theorem dL_isInherited_161 : decode cL_isInherited 161 = .ok (.iload 11, 2) := by decide +kernel
theorem dL_isInherited_163 : decode cL_isInherited 163 = .ok (.invokestatic 28, 3) := by decide +kernel
theorem dL_isInherited_166 : decode cL_isInherited 166 = .ok (.iload_n 1, 1) := by decide +kernel
theorem dL_isInherited_167 : decode cL_isInherited 167 = .ok (.if_icmp .ne 7, 3) := by decide +kernel
theorem dL_isInherited_170 : decode cL_isInherited 170 = .ok (.iload_n 2, 1) := by decide +kernel
theorem dL_isInherited_171 : decode cL_isInherited 171 = .ok (.goto 9, 3) := by decide +kernel
theorem dL_isInherited_174 : decode cL_isInherited 174 = .ok (.aload_n 3, 1) := by decide +kernel
theorem dL_isInherited_175 : decode cL_isInherited 175 = .ok (.iload 11, 2) := by decide +kernel
theorem dL_isInherited_177 : decode cL_isInherited 177 = .ok (.invokestatic 28, 3) := by decide +kernel
