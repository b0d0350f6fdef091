theorem dL_isInherited_180 : decode cL_isInherited 180 = .ok (.invokestatic 24, 3) := by decide +kernel
theorem dL_isInherited_183 : decode cL_isInherited 183 = .ok (.istore 10, 2) := by decide +kernel
theorem dL_isInherited_185 : decode cL_isInherited 185 = .ok (.iinc 11 1, 3) := by decide +kernel
theorem dL_isInherited_188 : decode cL_isInherited 188 = .ok (.goto (-55), 3) := by decide +kernel
theorem dL_isInherited_191 : decode cL_isInherited 191 = .ok (.aload 5, 2) := by decide +kernel
theorem dL_isInherited_193 : decode cL_isInherited 193 = .ok (.iconst 0, 1) := by decide +kernel
theorem dL_isInherited_194 : decode cL_isInherited 194 = .ok (.iload 10, 2) := by decide +kernel
theorem dL_isInherited_196 : decode cL_isInherited 196 = .ok (.iastore, 1) := by decide +kernel
theorem dL_isInherited_197 : decode cL_isInherited 197 = .ok (.iload 9, 2) := by decide +kernel
theorem dL_isInherited_199 : decode cL_isInherited 199 = .ok (.iload 7, 2) := by decide +kernel
theorem dL_isInherited_201 : decode cL_isInherited 201 = .ok (.if_icmp .ne 18, 3) := by decide +kernel
theorem dL_isInherited_204 : decode cL_isInherited 204 = .ok (.aload_n 0, 1) := by decide +kernel
theorem dL_isInherited_205 : decode cL_isInherited 205 = .ok (.aload 5, 2) := by decide +kernel
theorem dL_isInherited_207 : decode cL_isInherited 207 = .ok (.aload 6, 2) := by decide +kernel
theorem dL_isInherited_209 : decode cL_isInherited 209 = .ok (.invokestatic 81, 3) := by decide +kernel
theorem dL_isInherited_212 : decode cL_isInherited 212 = .ok (.ifCond .eq 7, 3) := by decide +kernel
theorem dL_isInherited_215 : decode cL_isInherited 215 = .ok (.iconst 1, 1) := by decide +kernel
theorem dL_isInherited_216 : decode cL_isInherited 216 = .ok (.goto 4, 3) := by decide +kernel
theorem dL_isInherited_219 : decode cL_isInherited 219 = .ok (.iconst 0, 1) := by decide +kernel
theorem dL_isInherited_220 : decode cL_isInherited 220 = .ok (.ireturn, 1) := by decide +kernel
theorem dL_isAdded_0 : decode cL_isAdded 0 = .ok (.aload_n 0, 1) := by decide +kernel
theorem dL_isAdded_1 : decode cL_isAdded 1 = .ok (.bipush 6, 2) := by decide +kernel
theorem dL_isAdded_3 : decode cL_isAdded 3 = .ok (.invokevirtual 8, 3) := by decide +kernel
theorem dL_isAdded_6 : decode cL_isAdded 6 = .ok (.istore 6, 2) := by decide +kernel
theorem dL_isAdded_8 : decode cL_isAdded 8 = .ok (.aload_n 0, 1) := by decide +kernel
theorem dL_isAdded_9 : decode cL_isAdded 9 = .ok (.iload_n 1, 1) := by decide +kernel
theorem dL_isAdded_10 : decode cL_isAdded 10 = .ok (.iload_n 2, 1) := by decide +kernel
theorem dL_isAdded_11 : decode cL_isAdded 11 = .ok (.iload_n 3, 1) := by decide +kernel
theorem dL_isAdded_12 : decode cL_isAdded 12 = .ok (.iload 4, 2) := by decide +kernel
theorem dL_isAdded_14 : decode cL_isAdded 14 = .ok (.iload 5, 2) := by decide +kernel
theorem dL_isAdded_16 : decode cL_isAdded 16 = .ok (.invokevirtual 96, 3) := by decide +kernel
theorem dL_isAdded_19 : decode cL_isAdded 19 = .ok (.istore 7, 2) := by decide +kernel
theorem dL_isAdded_21 : decode cL_isAdded 21 = .ok (.iload_n 1, 1) := by decide +kernel
theorem dL_isAdded_22 : decode cL_isAdded 22 = .ok (.iload_n 2, 1) := by decide +kernel
theorem dL_isAdded_23 : decode cL_isAdded 23 = .ok (.if_icmp .eq 10, 3) := by decide +kernel
theorem dL_isAdded_26 : decode cL_isAdded 26 = .ok (.iload 6, 2) := by decide +kernel
theorem dL_isAdded_28 : decode cL_isAdded 28 = .ok (.bipush 8, 2) := by decide +kernel
theorem dL_isAdded_30 : decode cL_isAdded 30 = .ok (.if_icmp .ne 36, 3) := by decide +kernel
theorem dL_isAdded_33 : decode cL_isAdded 33 = .ok (.iload 7, 2) := by decide +kernel
theorem dL_isAdded_35 : decode cL_isAdded 35 = .ok (.iload_n 1, 1) := by decide +kernel
theorem dL_isAdded_36 : decode cL_isAdded 36 = .ok (.iload_n 2, 1) := by decide +kernel
theorem dL_isAdded_37 : decode cL_isAdded 37 = .ok (.if_icmp .ne 7, 3) := by decide +kernel
theorem dL_isAdded_40 : decode cL_isAdded 40 = .ok (.iconst (-1), 1) := by decide +kernel
theorem dL_isAdded_41 : decode cL_isAdded 41 = .ok (.goto 5, 3) := by decide +kernel
theorem dL_isAdded_44 : decode cL_isAdded 44 = .ok (.bipush (-4), 2) := by decide +kernel
theorem dL_isAdded_46 : decode cL_isAdded 46 = .ok (.if_icmp .ne 18, 3) := by decide +kernel
theorem dL_isAdded_49 : decode cL_isAdded 49 = .ok (.aload_n 0, 1) := by decide +kernel
theorem dL_isAdded_50 : decode cL_isAdded 50 = .ok (.bipush 6, 2) := by decide +kernel
theorem dL_isAdded_52 : decode cL_isAdded 52 = .ok (.invokevirtual 8, 3) := by decide +kernel
theorem dL_isAdded_55 : decode cL_isAdded 55 = .ok (.iload 6, 2) := by decide +kernel
theorem dL_isAdded_57 : decode cL_isAdded 57 = .ok (.if_icmp .ne 7, 3) := by decide +kernel
theorem dL_isAdded_60 : decode cL_isAdded 60 = .ok (.iconst 1, 1) := by decide +kernel
theorem dL_isAdded_61 : decode cL_isAdded 61 = .ok (.goto 4, 3) := by decide +kernel
theorem dL_isAdded_64 : decode cL_isAdded 64 = .ok (.iconst 0, 1) := by decide +kernel
theorem dL_isAdded_65 : decode cL_isAdded 65 = .ok (.ireturn, 1) := by decide +kernel
theorem dL_isAdded_66 : decode cL_isAdded 66 = .ok (.iload 7, 2) := by decide +kernel
theorem dL_isAdded_68 : decode cL_isAdded 68 = .ok (.iload 6, 2) := by decide +kernel
theorem dL_isAdded_70 : decode cL_isAdded 70 = .ok (.iconst 1, 1) := by decide +kernel
theorem dL_isAdded_71 : decode cL_isAdded 71 = .ok (.iadd, 1) := by decide +kernel
theorem dL_isAdded_72 : decode cL_isAdded 72 = .ok (.if_icmp .ne 64, 3) := by decide +kernel
theorem dL_isAdded_75 : decode cL_isAdded 75 = .ok (.aload_n 0, 1) := by decide +kernel
theorem dL_isAdded_76 : decode cL_isAdded 76 = .ok (.iload 6, 2) := by decide +kernel
theorem dL_isAdded_78 : decode cL_isAdded 78 = .ok (.iconst 0, 1) := by decide +kernel
theorem dL_isAdded_79 : decode cL_isAdded 79 = .ok (.invokevirtual 100, 3) := by decide +kernel
theorem dL_isAdded_82 : decode cL_isAdded 82 = .ok (.iload_n 1, 1) := by decide +kernel
theorem dL_isAdded_83 : decode cL_isAdded 83 = .ok (.if_icmp .ne 53, 3) := by decide +kernel
theorem dL_isAdded_86 : decode cL_isAdded 86 = .ok (.aload_n 0, 1) := by decide +kernel
theorem dL_isAdded_87 : decode cL_isAdded 87 = .ok (.iload 6, 2) := by decide +kernel
theorem dL_isAdded_89 : decode cL_isAdded 89 = .ok (.iconst 1, 1) := by decide +kernel
theorem dL_isAdded_90 : decode cL_isAdded 90 = .ok (.invokevirtual 100, 3) := by decide +kernel
theorem dL_isAdded_93 : decode cL_isAdded 93 = .ok (.iload_n 2, 1) := by decide +kernel
theorem dL_isAdded_94 : decode cL_isAdded 94 = .ok (.if_icmp .ne 42, 3) := by decide +kernel
theorem dL_isAdded_97 : decode cL_isAdded 97 = .ok (.aload_n 0, 1) := by decide +kernel
theorem dL_isAdded_98 : decode cL_isAdded 98 = .ok (.iload 6, 2) := by decide +kernel
theorem dL_isAdded_100 : decode cL_isAdded 100 = .ok (.iconst 2, 1) := by decide +kernel
theorem dL_isAdded_101 : decode cL_isAdded 101 = .ok (.invokevirtual 100, 3) := by decide +kernel
theorem dL_isAdded_104 : decode cL_isAdded 104 = .ok (.iload_n 3, 1) := by decide +kernel
theorem dL_isAdded_105 : decode cL_isAdded 105 = .ok (.if_icmp .ne 31, 3) := by decide +kernel
theorem dL_isAdded_108 : decode cL_isAdded 108 = .ok (.aload_n 0, 1) := by decide +kernel
theorem dL_isAdded_109 : decode cL_isAdded 109 = .ok (.iload 6, 2) := by decide +kernel
theorem dL_isAdded_111 : decode cL_isAdded 111 = .ok (.iconst 3, 1) := by decide +kernel
theorem dL_isAdded_112 : decode cL_isAdded 112 = .ok (.invokevirtual 100, 3) := by decide +kernel
theorem dL_isAdded_115 : decode cL_isAdded 115 = .ok (.iload 4, 2) := by decide +kernel
theorem dL_isAdded_117 : decode cL_isAdded 117 = .ok (.if_icmp .ne 19, 3) := by decide +kernel
theorem dL_isAdded_120 : decode cL_isAdded 120 = .ok (.aload_n 0, 1) := by decide +kernel
theorem dL_isAdded_121 : decode cL_isAdded 121 = .ok (.iload 6, 2) := by decide +kernel
theorem dL_isAdded_123 : decode cL_isAdded 123 = .ok (.iconst 4, 1) := by decide +kernel
theorem dL_isAdded_124 : decode cL_isAdded 124 = .ok (.invokevirtual 100, 3) := by decide +kernel
theorem dL_isAdded_127 : decode cL_isAdded 127 = .ok (.iload 5, 2) := by decide +kernel
theorem dL_isAdded_129 : decode cL_isAdded 129 = .ok (.if_icmp .ne 7, 3) := by decide +kernel
theorem dL_isAdded_132 : decode cL_isAdded 132 = .ok (.iconst 1, 1) := by decide +kernel
theorem dL_isAdded_133 : decode cL_isAdded 133 = .ok (.goto 4, 3) := by decide +kernel
theorem dL_isAdded_136 : decode cL_isAdded 136 = .ok (.iconst 0, 1) := by decide +kernel
theorem dL_isAdded_137 : decode cL_isAdded 137 = .ok (.ireturn, 1) := by decide +kernel
theorem dL_isShort_0 : decode cL_isShort 0 = .ok (.iconst 0, 1) := by decide +kernel
theorem dL_isShort_1 : decode cL_isShort 1 = .ok (.istore 4, 2) := by decide +kernel
theorem dL_isShort_3 : decode cL_isShort 3 = .ok (.iload 4, 2) := by decide +kernel
theorem dL_isShort_5 : decode cL_isShort 5 = .ok (.aload_n 0, 1) := by decide +kernel
theorem dL_isShort_6 : decode cL_isShort 6 = .ok (.iconst 0, 1) := by decide +kernel
theorem dL_isShort_7 : decode cL_isShort 7 = .ok (.iaload, 1) := by decide +kernel
theorem dL_isShort_8 : decode cL_isShort 8 = .ok (.if_icmp .ge 38, 3) := by decide +kernel
theorem dL_isShort_11 : decode cL_isShort 11 = .ok (.aload_n 0, 1) := by decide +kernel
theorem dL_isShort_12 : decode cL_isShort 12 = .ok (.iload 4, 2) := by decide +kernel
theorem dL_isShort_14 : decode cL_isShort 14 = .ok (.invokestatic 28, 3) := by decide +kernel
theorem dL_isShort_17 : decode cL_isShort 17 = .ok (.iload_n 2, 1) := by decide +kernel
theorem dL_isShort_18 : decode cL_isShort 18 = .ok (.if_icmp .ne 22, 3) := by decide +kernel
theorem dL_isShort_21 : decode cL_isShort 21 = .ok (.aload_n 1, 1) := by decide +kernel
theorem dL_isShort_22 : decode cL_isShort 22 = .ok (.iconst 1, 1) := by decide +kernel
theorem dL_isShort_23 : decode cL_isShort 23 = .ok (.iload 4, 2) := by decide +kernel
theorem dL_isShort_25 : decode cL_isShort 25 = .ok (.iadd, 1) := by decide +kernel
theorem dL_isShort_26 : decode cL_isShort 26 = .ok (.iaload, 1) := by decide +kernel
theorem dL_isShort_27 : decode cL_isShort 27 = .ok (.aload_n 0, 1) := by decide +kernel
theorem dL_isShort_28 : decode cL_isShort 28 = .ok (.iload 4, 2) := by decide +kernel
theorem dL_isShort_30 : decode cL_isShort 30 = .ok (.invokestatic 18, 3) := by decide +kernel
theorem dL_isShort_33 : decode cL_isShort 33 = .ok (.isub, 1) := by decide +kernel
theorem dL_isShort_34 : decode cL_isShort 34 = .ok (.iload_n 3, 1) := by decide +kernel
theorem dL_isShort_35 : decode cL_isShort 35 = .ok (.if_icmp .ge 5, 3) := by decide +kernel
theorem dL_isShort_38 : decode cL_isShort 38 = .ok (.iconst 1, 1) := by decide +kernel
theorem dL_isShort_39 : decode cL_isShort 39 = .ok (.ireturn, 1) := by decide +kernel
theorem dL_isShort_40 : decode cL_isShort 40 = .ok (.iinc 4 1, 3) := by decide +kernel
theorem dL_isShort_43 : decode cL_isShort 43 = .ok (.goto (-40), 3) := by decide +kernel
theorem dL_isShort_46 : decode cL_isShort 46 = .ok (.iconst 0, 1) := by decide +kernel
theorem dL_isShort_47 : decode cL_isShort 47 = .ok (.ireturn, 1) := by decide +kernel
theorem dL_isClosed_0 : decode cL_isClosed 0 = .ok (.bipush 64, 2) := by decide +kernel
theorem dL_isClosed_2 : decode cL_isClosed 2 = .ok (.newarray .int, 2) := by decide +kernel
theorem dL_isClosed_4 : decode cL_isClosed 4 = .ok (.astore_n 1, 1) := by decide +kernel
theorem dL_isClosed_5 : decode cL_isClosed 5 = .ok (.bipush 64, 2) := by decide +kernel
theorem dL_isClosed_7 : decode cL_isClosed 7 = .ok (.newarray .int, 2) := by decide +kernel
theorem dL_isClosed_9 : decode cL_isClosed 9 = .ok (.astore_n 2, 1) := by decide +kernel
theorem dL_isClosed_10 : decode cL_isClosed 10 = .ok (.bipush 64, 2) := by decide +kernel
theorem dL_isClosed_12 : decode cL_isClosed 12 = .ok (.newarray .int, 2) := by decide +kernel
theorem dL_isClosed_14 : decode cL_isClosed 14 = .ok (.astore_n 3, 1) := by decide +kernel
theorem dL_isClosed_15 : decode cL_isClosed 15 = .ok (.bipush 64, 2) := by decide +kernel
theorem dL_isClosed_17 : decode cL_isClosed 17 = .ok (.newarray .int, 2) := by decide +kernel
theorem dL_isClosed_19 : decode cL_isClosed 19 = .ok (.astore 4, 2) := by decide +kernel
theorem dL_isClosed_21 : decode cL_isClosed 21 = .ok (.bipush 64, 2) := by decide +kernel
theorem dL_isClosed_23 : decode cL_isClosed 23 = .ok (.newarray .int, 2) := by decide +kernel
theorem dL_isClosed_25 : decode cL_isClosed 25 = .ok (.astore 5, 2) := by decide +kernel
theorem dL_isClosed_27 : decode cL_isClosed 27 = .ok (.bipush 64, 2) := by decide +kernel
theorem dL_isClosed_29 : decode cL_isClosed 29 = .ok (.newarray .int, 2) := by decide +kernel
theorem dL_isClosed_31 : decode cL_isClosed 31 = .ok (.astore 6, 2) := by decide +kernel
theorem dL_isClosed_33 : decode cL_isClosed 33 = .ok (.bipush 10, 2) := by decide +kernel
theorem dL_isClosed_35 : decode cL_isClosed 35 = .ok (.newarray .int, 2) := by decide +kernel
theorem dL_isClosed_37 : decode cL_isClosed 37 = .ok (.astore 7, 2) := by decide +kernel
theorem dL_isClosed_39 : decode cL_isClosed 39 = .ok (.aload_n 0, 1) := by decide +kernel
theorem dL_isClosed_40 : decode cL_isClosed 40 = .ok (.aload_n 1, 1) := by decide +kernel
theorem dL_isClosed_41 : decode cL_isClosed 41 = .ok (.aload_n 2, 1) := by decide +kernel
theorem dL_isClosed_42 : decode cL_isClosed 42 = .ok (.invokestatic 45, 3) := by decide +kernel
theorem dL_isClosed_45 : decode cL_isClosed 45 = .ok (.aload_n 1, 1) := by decide +kernel
theorem dL_isClosed_46 : decode cL_isClosed 46 = .ok (.aload_n 3, 1) := by decide +kernel
theorem dL_isClosed_47 : decode cL_isClosed 47 = .ok (.invokestatic 103, 3) := by decide +kernel
theorem dL_isClosed_50 : decode cL_isClosed 50 = .ok (.aload_n 2, 1) := by decide +kernel
theorem dL_isClosed_51 : decode cL_isClosed 51 = .ok (.aload 4, 2) := by decide +kernel
theorem dL_isClosed_53 : decode cL_isClosed 53 = .ok (.invokestatic 103, 3) := by decide +kernel
theorem dL_isClosed_56 : decode cL_isClosed 56 = .ok (.iconst 0, 1) := by decide +kernel
theorem dL_isClosed_57 : decode cL_isClosed 57 = .ok (.istore 8, 2) := by decide +kernel
theorem dL_isClosed_59 : decode cL_isClosed 59 = .ok (.iload 8, 2) := by decide +kernel
theorem dL_isClosed_61 : decode cL_isClosed 61 = .ok (.aload_n 0, 1) := by decide +kernel
theorem dL_isClosed_62 : decode cL_isClosed 62 = .ok (.iconst 1, 1) := by decide +kernel
theorem dL_isClosed_63 : decode cL_isClosed 63 = .ok (.invokevirtual 8, 3) := by decide +kernel
theorem dL_isClosed_66 : decode cL_isClosed 66 = .ok (.if_icmp .ge 21, 3) := by decide +kernel
theorem dL_isClosed_69 : decode cL_isClosed 69 = .ok (.aload 7, 2) := by decide +kernel
theorem dL_isClosed_71 : decode cL_isClosed 71 = .ok (.iload 8, 2) := by decide +kernel
theorem dL_isClosed_73 : decode cL_isClosed 73 = .ok (.aload_n 0, 1) := by decide +kernel
theorem dL_isClosed_74 : decode cL_isClosed 74 = .ok (.iload 8, 2) := by decide +kernel
theorem dL_isClosed_76 : decode cL_isClosed 76 = .ok (.invokevirtual 107, 3) := by decide +kernel
theorem dL_isClosed_79 : decode cL_isClosed 79 = .ok (.l2i, 1) := by decide +kernel
theorem dL_isClosed_80 : decode cL_isClosed 80 = .ok (.iastore, 1) := by decide +kernel
theorem dL_isClosed_81 : decode cL_isClosed 81 = .ok (.iinc 8 1, 3) := by decide +kernel
theorem dL_isClosed_84 : decode cL_isClosed 84 = .ok (.goto (-25), 3) := by decide +kernel
theorem dL_isClosed_87 : decode cL_isClosed 87 = .ok (.aload_n 0, 1) := by decide +kernel
theorem dL_isClosed_88 : decode cL_isClosed 88 = .ok (.bipush 6, 2) := by decide +kernel
theorem dL_isClosed_90 : decode cL_isClosed 90 = .ok (.invokevirtual 8, 3) := by decide +kernel
theorem dL_isClosed_93 : decode cL_isClosed 93 = .ok (.istore 8, 2) := by decide +kernel
theorem dL_isClosed_95 : decode cL_isClosed 95 = .ok (.aload_n 0, 1) := by decide +kernel
theorem dL_isClosed_96 : decode cL_isClosed 96 = .ok (.bipush 14, 2) := by decide +kernel
theorem dL_isClosed_98 : decode cL_isClosed 98 = .ok (.invokevirtual 8, 3) := by decide +kernel
theorem dL_isClosed_101 : decode cL_isClosed 101 = .ok (.istore 9, 2) := by decide +kernel
theorem dL_isClosed_103 : decode cL_isClosed 103 = .ok (.aload_n 0, 1) := by decide +kernel
theorem dL_isClosed_104 : decode cL_isClosed 104 = .ok (.bipush 8, 2) := by decide +kernel
theorem dL_isClosed_106 : decode cL_isClosed 106 = .ok (.invokevirtual 8, 3) := by decide +kernel
theorem dL_isClosed_109 : decode cL_isClosed 109 = .ok (.istore 10, 2) := by decide +kernel
theorem dL_isClosed_111 : decode cL_isClosed 111 = .ok (.aload_n 0, 1) := by decide +kernel
theorem dL_isClosed_112 : decode cL_isClosed 112 = .ok (.bipush 7, 2) := by decide +kernel
theorem dL_isClosed_114 : decode cL_isClosed 114 = .ok (.invokevirtual 8, 3) := by decide +kernel
theorem dL_isClosed_117 : decode cL_isClosed 117 = .ok (.istore 11, 2) := by decide +kernel
theorem dL_isClosed_119 : decode cL_isClosed 119 = .ok (.bipush (-6), 2) := by decide +kernel
theorem dL_isClosed_121 : decode cL_isClosed 121 = .ok (.istore 12, 2) := by decide +kernel
theorem dL_isClosed_123 : decode cL_isClosed 123 = .ok (.iconst 0, 1) := by decide +kernel
theorem dL_isClosed_124 : decode cL_isClosed 124 = .ok (.istore 13, 2) := by decide +kernel
theorem dL_isClosed_126 : decode cL_isClosed 126 = .ok (.iload 13, 2) := by decide +kernel
theorem dL_isClosed_128 : decode cL_isClosed 128 = .ok (.iload 8, 2) := by decide +kernel
theorem dL_isClosed_130 : decode cL_isClosed 130 = .ok (.if_icmp .ge 242, 3) := by decide +kernel
theorem dL_isClosed_133 : decode cL_isClosed 133 = .ok (.iload 12, 2) := by decide +kernel
theorem dL_isClosed_135 : decode cL_isClosed 135 = .ok (.ifCond .ge 237, 3) := by decide +kernel
theorem dL_isClosed_138 : decode cL_isClosed 138 = .ok (.aload_n 0, 1) := by decide +kernel
theorem dL_isClosed_139 : decode cL_isClosed 139 = .ok (.iload 13, 2) := by decide +kernel
theorem dL_isClosed_141 : decode cL_isClosed 141 = .ok (.iconst 0, 1) := by decide +kernel
theorem dL_isClosed_142 : decode cL_isClosed 142 = .ok (.invokevirtual 100, 3) := by decide +kernel
theorem dL_isClosed_145 : decode cL_isClosed 145 = .ok (.istore 14, 2) := by decide +kernel
theorem dL_isClosed_147 : decode cL_isClosed 147 = .ok (.aload_n 0, 1) := by decide +kernel
theorem dL_isClosed_148 : decode cL_isClosed 148 = .ok (.iload 13, 2) := by decide +kernel
theorem dL_isClosed_150 : decode cL_isClosed 150 = .ok (.iconst 1, 1) := by decide +kernel
theorem dL_isClosed_151 : decode cL_isClosed 151 = .ok (.invokevirtual 100, 3) := by decide +kernel
theorem dL_isClosed_154 : decode cL_isClosed 154 = .ok (.istore 15, 2) := by decide +kernel
theorem dL_isClosed_156 : decode cL_isClosed 156 = .ok (.aload_n 0, 1) := by decide +kernel
theorem dL_isClosed_157 : decode cL_isClosed 157 = .ok (.iload 13, 2) := by decide +kernel
theorem dL_isClosed_159 : decode cL_isClosed 159 = .ok (.iconst 2, 1) := by decide +kernel
theorem dL_isClosed_160 : decode cL_isClosed 160 = .ok (.invokevirtual 100, 3) := by decide +kernel
theorem dL_isClosed_163 : decode cL_isClosed 163 = .ok (.istore 16, 2) := by decide +kernel
theorem dL_isClosed_165 : decode cL_isClosed 165 = .ok (.aload_n 0, 1) := by decide +kernel
theorem dL_isClosed_166 : decode cL_isClosed 166 = .ok (.iload 13, 2) := by decide +kernel
theorem dL_isClosed_168 : decode cL_isClosed 168 = .ok (.iconst 3, 1) := by decide +kernel
theorem dL_isClosed_169 : decode cL_isClosed 169 = .ok (.invokevirtual 100, 3) := by decide +kernel
theorem dL_isClosed_172 : decode cL_isClosed 172 = .ok (.istore 17, 2) := by decide +kernel
theorem dL_isClosed_174 : decode cL_isClosed 174 = .ok (.aload_n 0, 1) := by decide +kernel
theorem dL_isClosed_175 : decode cL_isClosed 175 = .ok (.iload 13, 2) := by decide +kernel
theorem dL_isClosed_177 : decode cL_isClosed 177 = .ok (.iconst 4, 1) := by decide +kernel
theorem dL_isClosed_178 : decode cL_isClosed 178 = .ok (.invokevirtual 100, 3) := by decide +kernel
theorem dL_isClosed_181 : decode cL_isClosed 181 = .ok (.istore 18, 2) := by decide +kernel
theorem dL_isClosed_183 : decode cL_isClosed 183 = .ok (.aload_n 3, 1) := by decide +kernel
theorem dL_isClosed_184 : decode cL_isClosed 184 = .ok (.aload 4, 2) := by decide +kernel
theorem dL_isClosed_186 : decode cL_isClosed 186 = .ok (.iload 16, 2) := by decide +kernel
theorem dL_isClosed_188 : decode cL_isClosed 188 = .ok (.iload 16, 2) := by decide +kernel
theorem dL_isClosed_190 : decode cL_isClosed 190 = .ok (.iload 17, 2) := by decide +kernel
theorem dL_isClosed_192 : decode cL_isClosed 192 = .ok (.iadd, 1) := by decide +kernel
theorem dL_isClosed_193 : decode cL_isClosed 193 = .ok (.iload 14, 2) := by decide +kernel
theorem dL_isClosed_195 : decode cL_isClosed 195 = .ok (.invokestatic 70, 3) := by decide +kernel
theorem dL_isClosed_198 : decode cL_isClosed 198 = .ok (.iload 17, 2) := by decide +kernel
theorem dL_isClosed_200 : decode cL_isClosed 200 = .ok (.if_icmp .ne 40, 3) := by decide +kernel
theorem dL_isClosed_203 : decode cL_isClosed 203 = .ok (.aload 7, 2) := by decide +kernel
theorem dL_isClosed_205 : decode cL_isClosed 205 = .ok (.iload 15, 2) := by decide +kernel
theorem dL_isClosed_207 : decode cL_isClosed 207 = .ok (.iaload, 1) := by decide +kernel
theorem dL_isClosed_208 : decode cL_isClosed 208 = .ok (.iload 18, 2) := by decide +kernel
theorem dL_isClosed_210 : decode cL_isClosed 210 = .ok (.iload 9, 2) := by decide +kernel
theorem dL_isClosed_212 : decode cL_isClosed 212 = .ok (.iadd, 1) := by decide +kernel
theorem dL_isClosed_213 : decode cL_isClosed 213 = .ok (.if_icmp .lt 27, 3) := by decide +kernel
theorem dL_isClosed_216 : decode cL_isClosed 216 = .ok (.aload_n 3, 1) := by decide +kernel
theorem dL_isClosed_217 : decode cL_isClosed 217 = .ok (.aload 4, 2) := by decide +kernel
theorem dL_isClosed_219 : decode cL_isClosed 219 = .ok (.iload 15, 2) := by decide +kernel
theorem dL_isClosed_221 : decode cL_isClosed 221 = .ok (.invokestatic 31, 3) := by decide +kernel
theorem dL_isClosed_224 : decode cL_isClosed 224 = .ok (.iload 17, 2) := by decide +kernel
theorem dL_isClosed_226 : decode cL_isClosed 226 = .ok (.iadd, 1) := by decide +kernel
theorem dL_isClosed_227 : decode cL_isClosed 227 = .ok (.aload_n 0, 1) := by decide +kernel
theorem dL_isClosed_228 : decode cL_isClosed 228 = .ok (.bipush 16, 2) := by decide +kernel
theorem dL_isClosed_230 : decode cL_isClosed 230 = .ok (.invokevirtual 8, 3) := by decide +kernel
theorem dL_isClosed_233 : decode cL_isClosed 233 = .ok (.if_icmp .gt 7, 3) := by decide +kernel
theorem dL_isClosed_236 : decode cL_isClosed 236 = .ok (.iconst 1, 1) := by decide +kernel
theorem dL_isClosed_237 : decode cL_isClosed 237 = .ok (.goto 4, 3) := by decide +kernel
theorem dL_isClosed_240 : decode cL_isClosed 240 = .ok (.iconst 0, 1) := by decide +kernel
theorem dL_isClosed_241 : decode cL_isClosed 241 = .ok (.istore 19, 2) := by decide +kernel
theorem dL_isClosed_243 : decode cL_isClosed 243 = .ok (.iload 19, 2) := by decide +kernel
theorem dL_isClosed_245 : decode cL_isClosed 245 = .ok (.ifCond .eq 107, 3) := by decide +kernel
theorem dL_isClosed_248 : decode cL_isClosed 248 = .ok (.aload_n 3, 1) := by decide +kernel
theorem dL_isClosed_249 : decode cL_isClosed 249 = .ok (.aload 4, 2) := by decide +kernel
theorem dL_isClosed_251 : decode cL_isClosed 251 = .ok (.iload 16, 2) := by decide +kernel
theorem dL_isClosed_253 : decode cL_isClosed 253 = .ok (.iload 16, 2) := by decide +kernel
theorem dL_isClosed_255 : decode cL_isClosed 255 = .ok (.iload 17, 2) := by decide +kernel
theorem dL_isClosed_257 : decode cL_isClosed 257 = .ok (.iadd, 1) := by decide +kernel
theorem dL_isClosed_258 : decode cL_isClosed 258 = .ok (.iload 15, 2) := by decide +kernel
theorem dL_isClosed_260 : decode cL_isClosed 260 = .ok (.aload 5, 2) := by decide +kernel
theorem dL_isClosed_262 : decode cL_isClosed 262 = .ok (.aload 6, 2) := by decide +kernel
theorem dL_isClosed_264 : decode cL_isClosed 264 = .ok (.invokestatic 66, 3) := by decide +kernel
theorem dL_isClosed_267 : decode cL_isClosed 267 = .ok (.aload 5, 2) := by decide +kernel
theorem dL_isClosed_269 : decode cL_isClosed 269 = .ok (.aload_n 3, 1) := by decide +kernel
theorem dL_isClosed_270 : decode cL_isClosed 270 = .ok (.invokestatic 103, 3) := by decide +kernel
theorem dL_isClosed_273 : decode cL_isClosed 273 = .ok (.aload 6, 2) := by decide +kernel
theorem dL_isClosed_275 : decode cL_isClosed 275 = .ok (.aload 4, 2) := by decide +kernel
theorem dL_isClosed_277 : decode cL_isClosed 277 = .ok (.invokestatic 103, 3) := by decide +kernel
theorem dL_isClosed_280 : decode cL_isClosed 280 = .ok (.aload 7, 2) := by decide +kernel
theorem dL_isClosed_282 : decode cL_isClosed 282 = .ok (.iload 15, 2) := by decide +kernel
theorem dL_isClosed_284 : decode cL_isClosed 284 = .ok (.dup2, 1) := by decide +kernel
theorem dL_isClosed_285 : decode cL_isClosed 285 = .ok (.iaload, 1) := by decide +kernel
theorem dL_isClosed_286 : decode cL_isClosed 286 = .ok (.iload 18, 2) := by decide +kernel
theorem dL_isClosed_288 : decode cL_isClosed 288 = .ok (.iload 9, 2) := by decide +kernel
theorem dL_isClosed_290 : decode cL_isClosed 290 = .ok (.iadd, 1) := by decide +kernel
theorem dL_isClosed_291 : decode cL_isClosed 291 = .ok (.isub, 1) := by decide +kernel
theorem dL_isClosed_292 : decode cL_isClosed 292 = .ok (.iastore, 1) := by decide +kernel
theorem dL_isClosed_293 : decode cL_isClosed 293 = .ok (.aload 7, 2) := by decide +kernel
theorem dL_isClosed_295 : decode cL_isClosed 295 = .ok (.iload 14, 2) := by decide +kernel
theorem dL_isClosed_297 : decode cL_isClosed 297 = .ok (.dup2, 1) := by decide +kernel
theorem dL_isClosed_298 : decode cL_isClosed 298 = .ok (.iaload, 1) := by decide +kernel
theorem dL_isClosed_299 : decode cL_isClosed 299 = .ok (.iload 18, 2) := by decide +kernel
theorem dL_isClosed_301 : decode cL_isClosed 301 = .ok (.iadd, 1) := by decide +kernel
theorem dL_isClosed_302 : decode cL_isClosed 302 = .ok (.iastore, 1) := by decide +kernel
theorem dL_isClosed_303 : decode cL_isClosed 303 = .ok (.aload_n 3, 1) := by decide +kernel
theorem dL_isClosed_304 : decode cL_isClosed 304 = .ok (.iconst 0, 1) := by decide +kernel
theorem dL_isClosed_305 : decode cL_isClosed 305 = .ok (.iaload, 1) := by decide +kernel
theorem dL_isClosed_306 : decode cL_isClosed 306 = .ok (.bipush 40, 2) := by decide +kernel
theorem dL_isClosed_308 : decode cL_isClosed 308 = .ok (.if_icmp .gt 41, 3) := by decide +kernel
theorem dL_isClosed_311 : decode cL_isClosed 311 = .ok (.aload_n 3, 1) := by decide +kernel
theorem dL_isClosed_312 : decode cL_isClosed 312 = .ok (.aload 4, 2) := by decide +kernel
theorem dL_isClosed_314 : decode cL_isClosed 314 = .ok (.iload 14, 2) := by decide +kernel
theorem dL_isClosed_316 : decode cL_isClosed 316 = .ok (.aload_n 0, 1) := by decide +kernel
theorem dL_isClosed_317 : decode cL_isClosed 317 = .ok (.bipush 15, 2) := by decide +kernel
theorem dL_isClosed_319 : decode cL_isClosed 319 = .ok (.invokevirtual 8, 3) := by decide +kernel
theorem dL_isClosed_322 : decode cL_isClosed 322 = .ok (.invokestatic 111, 3) := by decide +kernel
theorem dL_isClosed_325 : decode cL_isClosed 325 = .ok (.ifCond .ne 24, 3) := by decide +kernel
theorem dL_isClosed_328 : decode cL_isClosed 328 = .ok (.aload_n 3, 1) := by decide +kernel
theorem dL_isClosed_329 : decode cL_isClosed 329 = .ok (.aload 4, 2) := by decide +kernel
theorem dL_isClosed_331 : decode cL_isClosed 331 = .ok (.iload 15, 2) := by decide +kernel
theorem dL_isClosed_333 : decode cL_isClosed 333 = .ok (.aload_n 0, 1) := by decide +kernel
theorem dL_isClosed_334 : decode cL_isClosed 334 = .ok (.bipush 15, 2) := by decide +kernel
theorem dL_isClosed_336 : decode cL_isClosed 336 = .ok (.invokevirtual 8, 3) := by decide +kernel
theorem dL_isClosed_339 : decode cL_isClosed 339 = .ok (.invokestatic 111, 3) := by decide +kernel
theorem dL_isClosed_342 : decode cL_isClosed 342 = .ok (.ifCond .ne 7, 3) := by decide +kernel
theorem dL_isClosed_345 : decode cL_isClosed 345 = .ok (.iconst 1, 1) := by decide +kernel
theorem dL_isClosed_346 : decode cL_isClosed 346 = .ok (.goto 4, 3) := by decide +kernel
theorem dL_isClosed_349 : decode cL_isClosed 349 = .ok (.iconst 0, 1) := by decide +kernel
theorem dL_isClosed_350 : decode cL_isClosed 350 = .ok (.istore 19, 2) := by decide +kernel
theorem dL_isClosed_352 : decode cL_isClosed 352 = .ok (.iload 19, 2) := by decide +kernel
theorem dL_isClosed_354 : decode cL_isClosed 354 = .ok (.ifCond .eq 8, 3) := by decide +kernel
theorem dL_isClosed_357 : decode cL_isClosed 357 = .ok (.iload 12, 2) := by decide +kernel
theorem dL_isClosed_359 : decode cL_isClosed 359 = .ok (.goto 5, 3) := by decide +kernel
theorem dL_isClosed_362 : decode cL_isClosed 362 = .ok (.iload 13, 2) := by decide +kernel
theorem dL_isClosed_364 : decode cL_isClosed 364 = .ok (.istore 12, 2) := by decide +kernel
theorem dL_isClosed_366 : decode cL_isClosed 366 = .ok (.iinc 13 1, 3) := by decide +kernel
theorem dL_isClosed_369 : decode cL_isClosed 369 = .ok (.goto (-243), 3) := by decide +kernel
theorem dL_isClosed_372 : decode cL_isClosed 372 = .ok (.aload_n 0, 1) := by decide +kernel
theorem dL_isClosed_373 : decode cL_isClosed 373 = .ok (.invokevirtual 115, 3) := by decide +kernel
theorem dL_isClosed_376 : decode cL_isClosed 376 = .ok (.iload 12, 2) := by decide +kernel
theorem dL_isClosed_378 : decode cL_isClosed 378 = .ok (.if_icmp .eq 5, 3) := by decide +kernel
theorem dL_isClosed_381 : decode cL_isClosed 381 = .ok (.iconst 0, 1) := by decide +kernel
theorem dL_isClosed_382 : decode cL_isClosed 382 = .ok (.ireturn, 1) := by decide +kernel
theorem dL_isClosed_383 : decode cL_isClosed 383 = .ok (.aload_n 0, 1) := by decide +kernel
theorem dL_isClosed_384 : decode cL_isClosed 384 = .ok (.invokevirtual 119, 3) := by decide +kernel
theorem dL_isClosed_387 : decode cL_isClosed 387 = .ok (.istore 13, 2) := by decide +kernel
theorem dL_isClosed_389 : decode cL_isClosed 389 = .ok (.iload 8, 2) := by decide +kernel
theorem dL_isClosed_391 : decode cL_isClosed 391 = .ok (.ifCond .eq 8, 3) := by decide +kernel
theorem dL_isClosed_394 : decode cL_isClosed 394 = .ok (.iload 12, 2) := by decide +kernel
theorem dL_isClosed_396 : decode cL_isClosed 396 = .ok (.ifCond .lt 47, 3) := by decide +kernel
theorem dL_isClosed_399 : decode cL_isClosed 399 = .ok (.iload 13, 2) := by decide +kernel
theorem dL_isClosed_401 : decode cL_isClosed 401 = .ok (.bipush (-5), 2) := by decide +kernel
theorem dL_isClosed_403 : decode cL_isClosed 403 = .ok (.if_icmp .ne 38, 3) := by decide +kernel
theorem dL_isClosed_406 : decode cL_isClosed 406 = .ok (.aload_n 0, 1) := by decide +kernel
theorem dL_isClosed_407 : decode cL_isClosed 407 = .ok (.bipush 6, 2) := by decide +kernel
theorem dL_isClosed_409 : decode cL_isClosed 409 = .ok (.invokevirtual 8, 3) := by decide +kernel
theorem dL_isClosed_412 : decode cL_isClosed 412 = .ok (.iload 8, 2) := by decide +kernel
theorem dL_isClosed_414 : decode cL_isClosed 414 = .ok (.if_icmp .ne 27, 3) := by decide +kernel
theorem dL_isClosed_417 : decode cL_isClosed 417 = .ok (.aload_n 0, 1) := by decide +kernel
theorem dL_isClosed_418 : decode cL_isClosed 418 = .ok (.bipush 8, 2) := by decide +kernel
theorem dL_isClosed_420 : decode cL_isClosed 420 = .ok (.invokevirtual 8, 3) := by decide +kernel
theorem dL_isClosed_423 : decode cL_isClosed 423 = .ok (.iload 10, 2) := by decide +kernel
theorem dL_isClosed_425 : decode cL_isClosed 425 = .ok (.if_icmp .ne 16, 3) := by decide +kernel
theorem dL_isClosed_428 : decode cL_isClosed 428 = .ok (.aload_n 0, 1) := by decide +kernel
theorem dL_isClosed_429 : decode cL_isClosed 429 = .ok (.aload_n 1, 1) := by decide +kernel
theorem dL_isClosed_430 : decode cL_isClosed 430 = .ok (.aload_n 2, 1) := by decide +kernel
theorem dL_isClosed_431 : decode cL_isClosed 431 = .ok (.invokestatic 81, 3) := by decide +kernel
theorem dL_isClosed_434 : decode cL_isClosed 434 = .ok (.ifCond .eq 7, 3) := by decide +kernel
theorem dL_isClosed_437 : decode cL_isClosed 437 = .ok (.iconst 1, 1) := by decide +kernel
theorem dL_isClosed_438 : decode cL_isClosed 438 = .ok (.goto 4, 3) := by decide +kernel
theorem dL_isClosed_441 : decode cL_isClosed 441 = .ok (.iconst 0, 1) := by decide +kernel
theorem dL_isClosed_442 : decode cL_isClosed 442 = .ok (.ireturn, 1) := by decide +kernel
theorem dL_isClosed_443 : decode cL_isClosed 443 = .ok (.iconst 0, 1) := by decide +kernel
theorem dL_isClosed_444 : decode cL_isClosed 444 = .ok (.istore 14, 2) := by decide +kernel
theorem dL_isClosed_446 : decode cL_isClosed 446 = .ok (.iload 14, 2) := by decide +kernel
theorem dL_isClosed_448 : decode cL_isClosed 448 = .ok (.aload_n 0, 1) := by decide +kernel
theorem dL_isClosed_449 : decode cL_isClosed 449 = .ok (.iconst 1, 1) := by decide +kernel
theorem dL_isClosed_450 : decode cL_isClosed 450 = .ok (.invokevirtual 8, 3) := by decide +kernel
theorem dL_isClosed_453 : decode cL_isClosed 453 = .ok (.if_icmp .ge 27, 3) := by decide +kernel
theorem dL_isClosed_456 : decode cL_isClosed 456 = .ok (.aload_n 0, 1) := by decide +kernel
theorem dL_isClosed_457 : decode cL_isClosed 457 = .ok (.iload 14, 2) := by decide +kernel
theorem dL_isClosed_459 : decode cL_isClosed 459 = .ok (.invokevirtual 107, 3) := by decide +kernel
theorem dL_isClosed_462 : decode cL_isClosed 462 = .ok (.aload 7, 2) := by decide +kernel
theorem dL_isClosed_464 : decode cL_isClosed 464 = .ok (.iload 14, 2) := by decide +kernel
theorem dL_isClosed_466 : decode cL_isClosed 466 = .ok (.iaload, 1) := by decide +kernel
theorem dL_isClosed_467 : decode cL_isClosed 467 = .ok (.i2l, 1) := by decide +kernel
theorem dL_isClosed_468 : decode cL_isClosed 468 = .ok (.lcmp, 1) := by decide +kernel
theorem dL_isClosed_469 : decode cL_isClosed 469 = .ok (.ifCond .eq 5, 3) := by decide +kernel
theorem dL_isClosed_472 : decode cL_isClosed 472 = .ok (.iconst 0, 1) := by decide +kernel
theorem dL_isClosed_473 : decode cL_isClosed 473 = .ok (.ireturn, 1) := by decide +kernel
theorem dL_isClosed_474 : decode cL_isClosed 474 = .ok (.iinc 14 1, 3) := by decide +kernel
theorem dL_isClosed_477 : decode cL_isClosed 477 = .ok (.goto (-31), 3) := by decide +kernel
theorem dL_isClosed_480 : decode cL_isClosed 480 = .ok (.iload 13, 2) := by decide +kernel
theorem dL_isClosed_482 : decode cL_isClosed 482 = .ok (.iload 8, 2) := by decide +kernel
theorem dL_isClosed_484 : decode cL_isClosed 484 = .ok (.if_icmp .ne 56, 3) := by decide +kernel
theorem dL_isClosed_487 : decode cL_isClosed 487 = .ok (.aload_n 0, 1) := by decide +kernel
theorem dL_isClosed_488 : decode cL_isClosed 488 = .ok (.bipush 6, 2) := by decide +kernel
theorem dL_isClosed_490 : decode cL_isClosed 490 = .ok (.invokevirtual 8, 3) := by decide +kernel
theorem dL_isClosed_493 : decode cL_isClosed 493 = .ok (.ifCond .ne 47, 3) := by decide +kernel
theorem dL_isClosed_496 : decode cL_isClosed 496 = .ok (.aload_n 0, 1) := by decide +kernel
theorem dL_isClosed_497 : decode cL_isClosed 497 = .ok (.bipush 7, 2) := by decide +kernel
theorem dL_isClosed_499 : decode cL_isClosed 499 = .ok (.invokevirtual 8, 3) := by decide +kernel
theorem dL_isClosed_502 : decode cL_isClosed 502 = .ok (.iload 11, 2) := by decide +kernel
theorem dL_isClosed_504 : decode cL_isClosed 504 = .ok (.iconst 1, 1) := by decide +kernel
theorem dL_isClosed_505 : decode cL_isClosed 505 = .ok (.iadd, 1) := by decide +kernel
theorem dL_isClosed_506 : decode cL_isClosed 506 = .ok (.if_icmp .ne 34, 3) := by decide +kernel
theorem dL_isClosed_509 : decode cL_isClosed 509 = .ok (.aload_n 0, 1) := by decide +kernel
theorem dL_isClosed_510 : decode cL_isClosed 510 = .ok (.bipush 8, 2) := by decide +kernel
theorem dL_isClosed_512 : decode cL_isClosed 512 = .ok (.invokevirtual 8, 3) := by decide +kernel
theorem dL_isClosed_515 : decode cL_isClosed 515 = .ok (.iload 10, 2) := by decide +kernel
theorem dL_isClosed_517 : decode cL_isClosed 517 = .ok (.iload 8, 2) := by decide +kernel
theorem dL_isClosed_519 : decode cL_isClosed 519 = .ok (.iload 9, 2) := by decide +kernel
theorem dL_isClosed_521 : decode cL_isClosed 521 = .ok (.imul, 1) := by decide +kernel
theorem dL_isClosed_522 : decode cL_isClosed 522 = .ok (.iadd, 1) := by decide +kernel
theorem dL_isClosed_523 : decode cL_isClosed 523 = .ok (.if_icmp .ne 17, 3) := by decide +kernel
theorem dL_isClosed_526 : decode cL_isClosed 526 = .ok (.aload_n 0, 1) := by decide +kernel
theorem dL_isClosed_527 : decode cL_isClosed 527 = .ok (.aload_n 3, 1) := by decide +kernel
theorem dL_isClosed_528 : decode cL_isClosed 528 = .ok (.aload 4, 2) := by decide +kernel
theorem dL_isClosed_530 : decode cL_isClosed 530 = .ok (.invokestatic 81, 3) := by decide +kernel
theorem dL_isClosed_533 : decode cL_isClosed 533 = .ok (.ifCond .eq 7, 3) := by decide +kernel
theorem dL_isClosed_536 : decode cL_isClosed 536 = .ok (.iconst 1, 1) := by decide +kernel
theorem dL_isClosed_537 : decode cL_isClosed 537 = .ok (.goto 4, 3) := by decide +kernel
theorem dL_isClosed_540 : decode cL_isClosed 540 = .ok (.iconst 0, 1) := by decide +kernel
theorem dL_isClosed_541 : decode cL_isClosed 541 = .ok (.ireturn, 1) := by decide +kernel
theorem dL_isDay_0 : decode cL_isDay 0 = .ok (.bipush 64, 2) := by decide +kernel
theorem dL_isDay_2 : decode cL_isDay 2 = .ok (.newarray .int, 2) := by decide +kernel
theorem dL_isDay_4 : decode cL_isDay 4 = .ok (.astore_n 1, 1) := by decide +kernel
theorem dL_isDay_5 : decode cL_isDay 5 = .ok (.bipush 64, 2) := by decide +kernel
theorem dL_isDay_7 : decode cL_isDay 7 = .ok (.newarray .int, 2) := by decide +kernel
theorem dL_isDay_9 : decode cL_isDay 9 = .ok (.astore_n 2, 1) := by decide +kernel
theorem dL_isDay_10 : decode cL_isDay 10 = .ok (.bipush 64, 2) := by decide +kernel
theorem dL_isDay_12 : decode cL_isDay 12 = .ok (.newarray .int, 2) := by decide +kernel
theorem dL_isDay_14 : decode cL_isDay 14 = .ok (.astore_n 3, 1) := by decide +kernel
theorem dL_isDay_15 : decode cL_isDay 15 = .ok (.bipush 64, 2) := by decide +kernel
theorem dL_isDay_17 : decode cL_isDay 17 = .ok (.newarray .int, 2) := by decide +kernel
theorem dL_isDay_19 : decode cL_isDay 19 = .ok (.astore 4, 2) := by decide +kernel
theorem dL_isDay_21 : decode cL_isDay 21 = .ok (.bipush 10, 2) := by decide +kernel
theorem dL_isDay_23 : decode cL_isDay 23 = .ok (.newarray .int, 2) := by decide +kernel
theorem dL_isDay_25 : decode cL_isDay 25 = .ok (.astore 5, 2) := by decide +kernel
theorem dL_isDay_27 : decode cL_isDay 27 = .ok (.bipush 10, 2) := by decide +kernel
theorem dL_isDay_29 : decode cL_isDay 29 = .ok (.newarray .int, 2) := by decide +kernel
theorem dL_isDay_31 : decode cL_isDay 31 = .ok (.astore 6, 2) := by decide +kernel
theorem dL_isDay_33 : decode cL_isDay 33 = .ok (.bipush 10, 2) := by decide +kernel
theorem dL_isDay_35 : decode cL_isDay 35 = .ok (.newarray .int, 2) := by decide +kernel
theorem dL_isDay_37 : decode cL_isDay 37 = .ok (.astore 7, 2) := by decide +kernel
theorem dL_isDay_39 : decode cL_isDay 39 = .ok (.aload_n 0, 1) := by decide +kernel
theorem dL_isDay_40 : decode cL_isDay 40 = .ok (.aload_n 1, 1) := by decide +kernel
theorem dL_isDay_41 : decode cL_isDay 41 = .ok (.aload_n 2, 1) := by decide +kernel
theorem dL_isDay_42 : decode cL_isDay 42 = .ok (.invokestatic 45, 3) := by decide +kernel
theorem dL_isDay_45 : decode cL_isDay 45 = .ok (.aload_n 0, 1) := by decide +kernel
theorem dL_isDay_46 : decode cL_isDay 46 = .ok (.iconst 0, 1) := by decide +kernel
theorem dL_isDay_47 : decode cL_isDay 47 = .ok (.invokevirtual 8, 3) := by decide +kernel
theorem dL_isDay_50 : decode cL_isDay 50 = .ok (.istore 8, 2) := by decide +kernel
theorem dL_isDay_52 : decode cL_isDay 52 = .ok (.iconst 0, 1) := by decide +kernel
theorem dL_isDay_53 : decode cL_isDay 53 = .ok (.istore 9, 2) := by decide +kernel
theorem dL_isDay_55 : decode cL_isDay 55 = .ok (.iload 9, 2) := by decide +kernel
theorem dL_isDay_57 : decode cL_isDay 57 = .ok (.aload_n 0, 1) := by decide +kernel
theorem dL_isDay_58 : decode cL_isDay 58 = .ok (.iconst 1, 1) := by decide +kernel
theorem dL_isDay_59 : decode cL_isDay 59 = .ok (.invokevirtual 8, 3) := by decide +kernel
theorem dL_isDay_62 : decode cL_isDay 62 = .ok (.if_icmp .ge 284, 3) := by decide +kernel
theorem dL_isDay_65 : decode cL_isDay 65 = .ok (.aload 5, 2) := by decide +kernel
theorem dL_isDay_67 : decode cL_isDay 67 = .ok (.iload 9, 2) := by decide +kernel
theorem dL_isDay_69 : decode cL_isDay 69 = .ok (.aload_n 0, 1) := by decide +kernel
theorem dL_isDay_70 : decode cL_isDay 70 = .ok (.iload 9, 2) := by decide +kernel
theorem dL_isDay_72 : decode cL_isDay 72 = .ok (.invokevirtual 107, 3) := by decide +kernel
theorem dL_isDay_75 : decode cL_isDay 75 = .ok (.l2i, 1) := by decide +kernel
theorem dL_isDay_76 : decode cL_isDay 76 = .ok (.iastore, 1) := by decide +kernel
theorem dL_isDay_77 : decode cL_isDay 77 = .ok (.aload 6, 2) := by decide +kernel
theorem dL_isDay_79 : decode cL_isDay 79 = .ok (.iload 9, 2) := by decide +kernel
theorem dL_isDay_81 : decode cL_isDay 81 = .ok (.aload_n 0, 1) := by decide +kernel
theorem dL_isDay_82 : decode cL_isDay 82 = .ok (.iload 9, 2) := by decide +kernel
theorem dL_isDay_84 : decode cL_isDay 84 = .ok (.iconst 4, 1) := by decide +kernel
theorem dL_isDay_85 : decode cL_isDay 85 = .ok (.invokevirtual 42, 3) := by decide +kernel
theorem dL_isDay_88 : decode cL_isDay 88 = .ok (.iastore, 1) := by decide +kernel
theorem dL_isDay_89 : decode cL_isDay 89 = .ok (.aload 7, 2) := by decide +kernel
theorem dL_isDay_91 : decode cL_isDay 91 = .ok (.iload 9, 2) := by decide +kernel
theorem dL_isDay_93 : decode cL_isDay 93 = .ok (.aload_n 0, 1) := by decide +kernel
theorem dL_isDay_94 : decode cL_isDay 94 = .ok (.iload 9, 2) := by decide +kernel
theorem dL_isDay_96 : decode cL_isDay 96 = .ok (.iconst 5, 1) := by decide +kernel
theorem dL_isDay_97 : decode cL_isDay 97 = .ok (.invokevirtual 42, 3) := by decide +kernel
theorem dL_isDay_100 : decode cL_isDay 100 = .ok (.iastore, 1) := by decide +kernel
theorem dL_isDay_101 : decode cL_isDay 101 = .ok (.aload_n 0, 1) := by decide +kernel
theorem dL_isDay_102 : decode cL_isDay 102 = .ok (.iload 9, 2) := by decide +kernel
theorem dL_isDay_104 : decode cL_isDay 104 = .ok (.invokevirtual 122, 3) := by decide +kernel
theorem dL_isDay_107 : decode cL_isDay 107 = .ok (.istore 10, 2) := by decide +kernel
theorem dL_isDay_109 : decode cL_isDay 109 = .ok (.aload_n 0, 1) := by decide +kernel
theorem dL_isDay_110 : decode cL_isDay 110 = .ok (.aload_n 1, 1) := by decide +kernel
theorem dL_isDay_111 : decode cL_isDay 111 = .ok (.aload_n 2, 1) := by decide +kernel
theorem dL_isDay_112 : decode cL_isDay 112 = .ok (.iload 9, 2) := by decide +kernel
theorem dL_isDay_114 : decode cL_isDay 114 = .ok (.invokestatic 55, 3) := by decide +kernel
theorem dL_isDay_117 : decode cL_isDay 117 = .ok (.istore 11, 2) := by decide +kernel
theorem dL_isDay_119 : decode cL_isDay 119 = .ok (.aload 5, 2) := by decide +kernel
theorem dL_isDay_121 : decode cL_isDay 121 = .ok (.iload 9, 2) := by decide +kernel
theorem dL_isDay_123 : decode cL_isDay 123 = .ok (.iaload, 1) := by decide +kernel
theorem dL_isDay_124 : decode cL_isDay 124 = .ok (.istore 12, 2) := by decide +kernel
theorem dL_isDay_126 : decode cL_isDay 126 = .ok (.aload 5, 2) := by decide +kernel
theorem dL_isDay_128 : decode cL_isDay 128 = .ok (.iload 9, 2) := by decide +kernel
theorem dL_isDay_130 : decode cL_isDay 130 = .ok (.dup2, 1) := by decide +kernel
theorem dL_isDay_131 : decode cL_isDay 131 = .ok (.iaload, 1) := by decide +kernel
theorem dL_isDay_132 : decode cL_isDay 132 = .ok (.iload 11, 2) := by decide +kernel
theorem dL_isDay_134 : decode cL_isDay 134 = .ok (.isub, 1) := by decide +kernel
theorem dL_isDay_135 : decode cL_isDay 135 = .ok (.iastore, 1) := by decide +kernel
theorem dL_isDay_136 : decode cL_isDay 136 = .ok (.iconst 0, 1) := by decide +kernel
theorem dL_isDay_137 : decode cL_isDay 137 = .ok (.istore 13, 2) := by decide +kernel
theorem dL_isDay_139 : decode cL_isDay 139 = .ok (.aload 5, 2) := by decide +kernel
theorem dL_isDay_141 : decode cL_isDay 141 = .ok (.iload 9, 2) := by decide +kernel
theorem dL_isDay_143 : decode cL_isDay 143 = .ok (.iaload, 1) := by decide +kernel
theorem dL_isDay_144 : decode cL_isDay 144 = .ok (.ifCond .ge 162, 3) := by decide +kernel
theorem dL_isDay_147 : decode cL_isDay 147 = .ok (.aload_n 1, 1) := by decide +kernel
theorem dL_isDay_148 : decode cL_isDay 148 = .ok (.iload 9, 2) := by decide +kernel
theorem dL_isDay_150 : decode cL_isDay 150 = .ok (.invokestatic 35, 3) := by decide +kernel
theorem dL_isDay_153 : decode cL_isDay 153 = .ok (.ifCond .le 153, 3) := by decide +kernel
theorem dL_isDay_156 : decode cL_isDay 156 = .ok (.iconst (-1), 1) := by decide +kernel
theorem dL_isDay_157 : decode cL_isDay 157 = .ok (.istore 14, 2) := by decide +kernel
theorem dL_isDay_159 : decode cL_isDay 159 = .ok (.iconst 0, 1) := by decide +kernel
theorem dL_isDay_160 : decode cL_isDay 160 = .ok (.istore 15, 2) := by decide +kernel
theorem dL_isDay_162 : decode cL_isDay 162 = .ok (.iload 15, 2) := by decide +kernel
theorem dL_isDay_164 : decode cL_isDay 164 = .ok (.aload_n 1, 1) := by decide +kernel
theorem dL_isDay_165 : decode cL_isDay 165 = .ok (.iconst 0, 1) := by decide +kernel
theorem dL_isDay_166 : decode cL_isDay 166 = .ok (.iaload, 1) := by decide +kernel
theorem dL_isDay_167 : decode cL_isDay 167 = .ok (.if_icmp .ge 63, 3) := by decide +kernel
theorem dL_isDay_170 : decode cL_isDay 170 = .ok (.aload_n 1, 1) := by decide +kernel
theorem dL_isDay_171 : decode cL_isDay 171 = .ok (.iload 15, 2) := by decide +kernel
theorem dL_isDay_173 : decode cL_isDay 173 = .ok (.invokestatic 28, 3) := by decide +kernel
theorem dL_isDay_176 : decode cL_isDay 176 = .ok (.iload 9, 2) := by decide +kernel
theorem dL_isDay_178 : decode cL_isDay 178 = .ok (.if_icmp .ne 42, 3) := by decide +kernel
theorem dL_isDay_181 : decode cL_isDay 181 = .ok (.iload 14, 2) := by decide +kernel
theorem dL_isDay_183 : decode cL_isDay 183 = .ok (.ifCond .lt 32, 3) := by decide +kernel
theorem dL_isDay_186 : decode cL_isDay 186 = .ok (.aload_n 2, 1) := by decide +kernel
theorem dL_isDay_187 : decode cL_isDay 187 = .ok (.iconst 1, 1) := by decide +kernel
theorem dL_isDay_188 : decode cL_isDay 188 = .ok (.iload 15, 2) := by decide +kernel
theorem dL_isDay_190 : decode cL_isDay 190 = .ok (.iadd, 1) := by decide +kernel
theorem dL_isDay_191 : decode cL_isDay 191 = .ok (.iaload, 1) := by decide +kernel
theorem dL_isDay_192 : decode cL_isDay 192 = .ok (.aload_n 1, 1) := by decide +kernel
theorem dL_isDay_193 : decode cL_isDay 193 = .ok (.iload 15, 2) := by decide +kernel
theorem dL_isDay_195 : decode cL_isDay 195 = .ok (.invokestatic 18, 3) := by decide +kernel
theorem dL_isDay_198 : decode cL_isDay 198 = .ok (.isub, 1) := by decide +kernel
theorem dL_isDay_199 : decode cL_isDay 199 = .ok (.aload_n 2, 1) := by decide +kernel
theorem dL_isDay_200 : decode cL_isDay 200 = .ok (.iconst 1, 1) := by decide +kernel
theorem dL_isDay_201 : decode cL_isDay 201 = .ok (.iload 14, 2) := by decide +kernel
theorem dL_isDay_203 : decode cL_isDay 203 = .ok (.iadd, 1) := by decide +kernel
theorem dL_isDay_204 : decode cL_isDay 204 = .ok (.iaload, 1) := by decide +kernel
theorem dL_isDay_205 : decode cL_isDay 205 = .ok (.aload_n 1, 1) := by decide +kernel
theorem dL_isDay_206 : decode cL_isDay 206 = .ok (.iload 14, 2) := by decide +kernel
theorem dL_isDay_208 : decode cL_isDay 208 = .ok (.invokestatic 18, 3) := by decide +kernel
theorem dL_isDay_211 : decode cL_isDay 211 = .ok (.isub, 1) := by decide +kernel
theorem dL_isDay_212 : decode cL_isDay 212 = .ok (.if_icmp .gt 8, 3) := by decide +kernel
theorem dL_isDay_215 : decode cL_isDay 215 = .ok (.iload 15, 2) := by decide +kernel
theorem dL_isDay_217 : decode cL_isDay 217 = .ok (.goto 5, 3) := by decide +kernel
theorem dL_isDay_220 : decode cL_isDay 220 = .ok (.iload 14, 2) := by decide +kernel
theorem dL_isDay_222 : decode cL_isDay 222 = .ok (.istore 14, 2) := by decide +kernel
theorem dL_isDay_224 : decode cL_isDay 224 = .ok (.iinc 15 1, 3) := by decide +kernel
theorem dL_isDay_227 : decode cL_isDay 227 = .ok (.goto (-65), 3) := by decide +kernel
theorem dL_isDay_230 : decode cL_isDay 230 = .ok (.aload 7, 2) := by decide +kernel
theorem dL_isDay_232 : decode cL_isDay 232 = .ok (.iload 9, 2) := by decide +kernel
theorem dL_isDay_234 : decode cL_isDay 234 = .ok (.dup2, 1) := by decide +kernel
theorem dL_isDay_235 : decode cL_isDay 235 = .ok (.iaload, 1) := by decide +kernel
theorem dL_isDay_236 : decode cL_isDay 236 = .ok (.aload_n 2, 1) := by decide +kernel
theorem dL_isDay_237 : decode cL_isDay 237 = .ok (.iconst 1, 1) := by decide +kernel
theorem dL_isDay_238 : decode cL_isDay 238 = .ok (.iload 14, 2) := by decide +kernel
theorem dL_isDay_240 : decode cL_isDay 240 = .ok (.iadd, 1) := by decide +kernel
theorem dL_isDay_241 : decode cL_isDay 241 = .ok (.iaload, 1) := by decide +kernel
theorem dL_isDay_242 : decode cL_isDay 242 = .ok (.aload_n 1, 1) := by decide +kernel
theorem dL_isDay_243 : decode cL_isDay 243 = .ok (.iload 14, 2) := by decide +kernel
theorem dL_isDay_245 : decode cL_isDay 245 = .ok (.invokestatic 18, 3) := by decide +kernel
theorem dL_isDay_248 : decode cL_isDay 248 = .ok (.isub, 1) := by decide +kernel
theorem dL_isDay_249 : decode cL_isDay 249 = .ok (.iadd, 1) := by decide +kernel
theorem dL_isDay_250 : decode cL_isDay 250 = .ok (.iastore, 1) := by decide +kernel
theorem dL_isDay_251 : decode cL_isDay 251 = .ok (.aload_n 1, 1) := by decide +kernel
theorem dL_isDay_252 : decode cL_isDay 252 = .ok (.aload_n 2, 1) := by decide +kernel
theorem dL_isDay_253 : decode cL_isDay 253 = .ok (.aload_n 1, 1) := by decide +kernel
theorem dL_isDay_254 : decode cL_isDay 254 = .ok (.iload 14, 2) := by decide +kernel
theorem dL_isDay_256 : decode cL_isDay 256 = .ok (.invokestatic 18, 3) := by decide +kernel
theorem dL_isDay_259 : decode cL_isDay 259 = .ok (.aload_n 2, 1) := by decide +kernel
theorem dL_isDay_260 : decode cL_isDay 260 = .ok (.iconst 1, 1) := by decide +kernel
theorem dL_isDay_261 : decode cL_isDay 261 = .ok (.iload 14, 2) := by decide +kernel
theorem dL_isDay_263 : decode cL_isDay 263 = .ok (.iadd, 1) := by decide +kernel
theorem dL_isDay_264 : decode cL_isDay 264 = .ok (.iaload, 1) := by decide +kernel
theorem dL_isDay_265 : decode cL_isDay 265 = .ok (.bipush (-6), 2) := by decide +kernel
theorem dL_isDay_267 : decode cL_isDay 267 = .ok (.aload_n 3, 1) := by decide +kernel
theorem dL_isDay_268 : decode cL_isDay 268 = .ok (.aload 4, 2) := by decide +kernel
theorem dL_isDay_270 : decode cL_isDay 270 = .ok (.invokestatic 66, 3) := by decide +kernel
theorem dL_isDay_273 : decode cL_isDay 273 = .ok (.aload_n 3, 1) := by decide +kernel
theorem dL_isDay_274 : decode cL_isDay 274 = .ok (.aload_n 1, 1) := by decide +kernel
theorem dL_isDay_275 : decode cL_isDay 275 = .ok (.invokestatic 103, 3) := by decide +kernel
theorem dL_isDay_278 : decode cL_isDay 278 = .ok (.aload 4, 2) := by decide +kernel
theorem dL_isDay_280 : decode cL_isDay 280 = .ok (.aload_n 2, 1) := by decide +kernel
theorem dL_isDay_281 : decode cL_isDay 281 = .ok (.invokestatic 103, 3) := by decide +kernel
theorem dL_isDay_284 : decode cL_isDay 284 = .ok (.aload 5, 2) := by decide +kernel
theorem dL_isDay_286 : decode cL_isDay 286 = .ok (.iload 9, 2) := by decide +kernel
theorem dL_isDay_288 : decode cL_isDay 288 = .ok (.iload 12, 2) := by decide +kernel
theorem dL_isDay_290 : decode cL_isDay 290 = .ok (.aload_n 0, 1) := by decide +kernel
theorem dL_isDay_291 : decode cL_isDay 291 = .ok (.aload_n 1, 1) := by decide +kernel
theorem dL_isDay_292 : decode cL_isDay 292 = .ok (.aload_n 2, 1) := by decide +kernel
theorem dL_isDay_293 : decode cL_isDay 293 = .ok (.iload 9, 2) := by decide +kernel
theorem dL_isDay_295 : decode cL_isDay 295 = .ok (.invokestatic 55, 3) := by decide +kernel
theorem dL_isDay_298 : decode cL_isDay 298 = .ok (.isub, 1) := by decide +kernel
theorem dL_isDay_299 : decode cL_isDay 299 = .ok (.iastore, 1) := by decide +kernel
theorem dL_isDay_300 : decode cL_isDay 300 = .ok (.iconst 1, 1) := by decide +kernel
theorem dL_isDay_301 : decode cL_isDay 301 = .ok (.istore 13, 2) := by decide +kernel
theorem dL_isDay_303 : decode cL_isDay 303 = .ok (.goto (-164), 3) := by decide +kernel
theorem dL_isDay_306 : decode cL_isDay 306 = .ok (.aload 6, 2) := by decide +kernel
theorem dL_isDay_308 : decode cL_isDay 308 = .ok (.iload 9, 2) := by decide +kernel
theorem dL_isDay_310 : decode cL_isDay 310 = .ok (.dup2, 1) := by decide +kernel
theorem dL_isDay_311 : decode cL_isDay 311 = .ok (.iaload, 1) := by decide +kernel
theorem dL_isDay_312 : decode cL_isDay 312 = .ok (.iload 12, 2) := by decide +kernel
theorem dL_isDay_314 : decode cL_isDay 314 = .ok (.aload 5, 2) := by decide +kernel
theorem dL_isDay_316 : decode cL_isDay 316 = .ok (.iload 9, 2) := by decide +kernel
theorem dL_isDay_318 : decode cL_isDay 318 = .ok (.iaload, 1) := by decide +kernel
theorem dL_isDay_319 : decode cL_isDay 319 = .ok (.isub, 1) := by decide +kernel
theorem dL_isDay_320 : decode cL_isDay 320 = .ok (.iadd, 1) := by decide +kernel
theorem dL_isDay_321 : decode cL_isDay 321 = .ok (.iastore, 1) := by decide +kernel
theorem dL_isDay_322 : decode cL_isDay 322 = .ok (.iload 13, 2) := by decide +kernel
theorem dL_isDay_324 : decode cL_isDay 324 = .ok (.iload 10, 2) := by decide +kernel
theorem dL_isDay_326 : decode cL_isDay 326 = .ok (.iconst 1, 1) := by decide +kernel
theorem dL_isDay_327 : decode cL_isDay 327 = .ok (.if_icmp .ne 7, 3) := by decide +kernel
theorem dL_isDay_330 : decode cL_isDay 330 = .ok (.iconst 1, 1) := by decide +kernel
theorem dL_isDay_331 : decode cL_isDay 331 = .ok (.goto 4, 3) := by decide +kernel
theorem dL_isDay_334 : decode cL_isDay 334 = .ok (.iconst 0, 1) := by decide +kernel
theorem dL_isDay_335 : decode cL_isDay 335 = .ok (.if_icmp .eq 5, 3) := by decide +kernel
theorem dL_isDay_338 : decode cL_isDay 338 = .ok (.iconst 0, 1) := by decide +kernel
theorem dL_isDay_339 : decode cL_isDay 339 = .ok (.ireturn, 1) := by decide +kernel
theorem dL_isDay_340 : decode cL_isDay 340 = .ok (.iinc 9 1, 3) := by decide +kernel
theorem dL_isDay_343 : decode cL_isDay 343 = .ok (.goto (-288), 3) := by decide +kernel
theorem dL_isDay_346 : decode cL_isDay 346 = .ok (.aload_n 0, 1) := by decide +kernel
theorem dL_isDay_347 : decode cL_isDay 347 = .ok (.iconst 1, 1) := by decide +kernel
theorem dL_isDay_348 : decode cL_isDay 348 = .ok (.invokevirtual 125, 3) := by decide +kernel
theorem dL_isDay_351 : decode cL_isDay 351 = .ok (.iload 8, 2) := by decide +kernel
theorem dL_isDay_353 : decode cL_isDay 353 = .ok (.iconst 1, 1) := by decide +kernel
theorem dL_isDay_354 : decode cL_isDay 354 = .ok (.iadd, 1) := by decide +kernel
theorem dL_isDay_355 : decode cL_isDay 355 = .ok (.if_icmp .ne 12, 3) := by decide +kernel
theorem dL_isDay_358 : decode cL_isDay 358 = .ok (.aload_n 0, 1) := by decide +kernel
theorem dL_isDay_359 : decode cL_isDay 359 = .ok (.aload_n 1, 1) := by decide +kernel
theorem dL_isDay_360 : decode cL_isDay 360 = .ok (.aload_n 2, 1) := by decide +kernel
theorem dL_isDay_361 : decode cL_isDay 361 = .ok (.invokestatic 81, 3) := by decide +kernel
theorem dL_isDay_364 : decode cL_isDay 364 = .ok (.ifCond .ne 5, 3) := by decide +kernel
theorem dL_isDay_367 : decode cL_isDay 367 = .ok (.iconst 0, 1) := by decide +kernel
theorem dL_isDay_368 : decode cL_isDay 368 = .ok (.ireturn, 1) := by decide +kernel
theorem dL_isDay_369 : decode cL_isDay 369 = .ok (.iconst 0, 1) := by decide +kernel
theorem dL_isDay_370 : decode cL_isDay 370 = .ok (.istore 9, 2) := by decide +kernel
theorem dL_isDay_372 : decode cL_isDay 372 = .ok (.iload 9, 2) := by decide +kernel
theorem dL_isDay_374 : decode cL_isDay 374 = .ok (.aload_n 0, 1) := by decide +kernel
theorem dL_isDay_375 : decode cL_isDay 375 = .ok (.iconst 1, 1) := by decide +kernel
theorem dL_isDay_376 : decode cL_isDay 376 = .ok (.invokevirtual 8, 3) := by decide +kernel
theorem dL_isDay_379 : decode cL_isDay 379 = .ok (.if_icmp .ge 57, 3) := by decide +kernel
theorem dL_isDay_382 : decode cL_isDay 382 = .ok (.aload_n 0, 1) := by decide +kernel
theorem dL_isDay_383 : decode cL_isDay 383 = .ok (.iload 9, 2) := by decide +kernel
theorem dL_isDay_385 : decode cL_isDay 385 = .ok (.invokevirtual 107, 3) := by decide +kernel
theorem dL_isDay_388 : decode cL_isDay 388 = .ok (.aload 5, 2) := by decide +kernel
theorem dL_isDay_390 : decode cL_isDay 390 = .ok (.iload 9, 2) := by decide +kernel
theorem dL_isDay_392 : decode cL_isDay 392 = .ok (.iaload, 1) := by decide +kernel
theorem dL_isDay_393 : decode cL_isDay 393 = .ok (.i2l, 1) := by decide +kernel
theorem dL_isDay_394 : decode cL_isDay 394 = .ok (.lcmp, 1) := by decide +kernel
theorem dL_isDay_395 : decode cL_isDay 395 = .ok (.ifCond .ne 33, 3) := by decide +kernel
theorem dL_isDay_398 : decode cL_isDay 398 = .ok (.aload_n 0, 1) := by decide +kernel
theorem dL_isDay_399 : decode cL_isDay 399 = .ok (.iload 9, 2) := by decide +kernel
theorem dL_isDay_401 : decode cL_isDay 401 = .ok (.iconst 4, 1) := by decide +kernel
theorem dL_isDay_402 : decode cL_isDay 402 = .ok (.invokevirtual 42, 3) := by decide +kernel
theorem dL_isDay_405 : decode cL_isDay 405 = .ok (.aload 6, 2) := by decide +kernel
theorem dL_isDay_407 : decode cL_isDay 407 = .ok (.iload 9, 2) := by decide +kernel
theorem dL_isDay_409 : decode cL_isDay 409 = .ok (.iaload, 1) := by decide +kernel
theorem dL_isDay_410 : decode cL_isDay 410 = .ok (.if_icmp .ne 18, 3) := by decide +kernel
theorem dL_isDay_413 : decode cL_isDay 413 = .ok (.aload_n 0, 1) := by decide +kernel
theorem dL_isDay_414 : decode cL_isDay 414 = .ok (.iload 9, 2) := by decide +kernel
theorem dL_isDay_416 : decode cL_isDay 416 = .ok (.iconst 5, 1) := by decide +kernel
theorem dL_isDay_417 : decode cL_isDay 417 = .ok (.invokevirtual 42, 3) := by decide +kernel
theorem dL_isDay_420 : decode cL_isDay 420 = .ok (.aload 7, 2) := by decide +kernel
theorem dL_isDay_422 : decode cL_isDay 422 = .ok (.iload 9, 2) := by decide +kernel
theorem dL_isDay_424 : decode cL_isDay 424 = .ok (.iaload, 1) := by decide +kernel
theorem dL_isDay_425 : decode cL_isDay 425 = .ok (.if_icmp .eq 5, 3) := by decide +kernel
theorem dL_isDay_428 : decode cL_isDay 428 = .ok (.iconst 0, 1) := by decide +kernel
theorem dL_isDay_429 : decode cL_isDay 429 = .ok (.ireturn, 1) := by decide +kernel
theorem dL_isDay_430 : decode cL_isDay 430 = .ok (.iinc 9 1, 3) := by decide +kernel
theorem dL_isDay_433 : decode cL_isDay 433 = .ok (.goto (-61), 3) := by decide +kernel
theorem dL_isDay_436 : decode cL_isDay 436 = .ok (.iconst 1, 1) := by decide +kernel
theorem dL_isDay_437 : decode cL_isDay 437 = .ok (.ireturn, 1) := by decide +kernel
theorem dL_isPaid_0 : decode cL_isPaid 0 = .ok (.aload_n 0, 1) := by decide +kernel
theorem dL_isPaid_1 : decode cL_isPaid 1 = .ok (.iload_n 1, 1) := by decide +kernel
theorem dL_isPaid_2 : decode cL_isPaid 2 = .ok (.invokevirtual 107, 3) := by decide +kernel
theorem dL_isPaid_5 : decode cL_isPaid 5 = .ok (.lstore_n 3, 1) := by decide +kernel
theorem dL_isPaid_6 : decode cL_isPaid 6 = .ok (.aload_n 0, 1) := by decide +kernel
theorem dL_isPaid_7 : decode cL_isPaid 7 = .ok (.iload_n 1, 1) := by decide +kernel
theorem dL_isPaid_8 : decode cL_isPaid 8 = .ok (.iload_n 2, 1) := by decide +kernel
theorem dL_isPaid_9 : decode cL_isPaid 9 = .ok (.invokevirtual 128, 3) := by decide +kernel
theorem dL_isPaid_12 : decode cL_isPaid 12 = .ok (.lload_n 3, 1) := by decide +kernel
theorem dL_isPaid_13 : decode cL_isPaid 13 = .ok (.iload_n 2, 1) := by decide +kernel
theorem dL_isPaid_14 : decode cL_isPaid 14 = .ok (.i2l, 1) := by decide +kernel
theorem dL_isPaid_15 : decode cL_isPaid 15 = .ok (.ladd, 1) := by decide +kernel
theorem dL_isPaid_16 : decode cL_isPaid 16 = .ok (.lconst 0, 1) := by decide +kernel
theorem dL_isPaid_17 : decode cL_isPaid 17 = .ok (.lcmp, 1) := by decide +kernel
theorem dL_isPaid_18 : decode cL_isPaid 18 = .ok (.ifCond .lt 7, 3) := by decide +kernel
theorem dL_isPaid_21 : decode cL_isPaid 21 = .ok (.iconst 1, 1) := by decide +kernel
theorem dL_isPaid_22 : decode cL_isPaid 22 = .ok (.goto 4, 3) := by decide +kernel
theorem dL_isPaid_25 : decode cL_isPaid 25 = .ok (.iconst 0, 1) := by decide +kernel
theorem dL_isPaid_26 : decode cL_isPaid 26 = .ok (.if_icmp .ne 20, 3) := by decide +kernel
theorem dL_isPaid_29 : decode cL_isPaid 29 = .ok (.aload_n 0, 1) := by decide +kernel
theorem dL_isPaid_30 : decode cL_isPaid 30 = .ok (.iload_n 1, 1) := by decide +kernel
theorem dL_isPaid_31 : decode cL_isPaid 31 = .ok (.invokevirtual 107, 3) := by decide +kernel
theorem dL_isPaid_34 : decode cL_isPaid 34 = .ok (.lload_n 3, 1) := by decide +kernel
theorem dL_isPaid_35 : decode cL_isPaid 35 = .ok (.iload_n 2, 1) := by decide +kernel
theorem dL_isPaid_36 : decode cL_isPaid 36 = .ok (.i2l, 1) := by decide +kernel
theorem dL_isPaid_37 : decode cL_isPaid 37 = .ok (.ladd, 1) := by decide +kernel
theorem dL_isPaid_38 : decode cL_isPaid 38 = .ok (.lcmp, 1) := by decide +kernel
theorem dL_isPaid_39 : decode cL_isPaid 39 = .ok (.ifCond .ne 7, 3) := by decide +kernel
theorem dL_isPaid_42 : decode cL_isPaid 42 = .ok (.iconst 1, 1) := by decide +kernel
theorem dL_isPaid_43 : decode cL_isPaid 43 = .ok (.goto 4, 3) := by decide +kernel
theorem dL_isPaid_46 : decode cL_isPaid 46 = .ok (.iconst 0, 1) := by decide +kernel
theorem dL_isPaid_47 : decode cL_isPaid 47 = .ok (.ireturn, 1) := by decide +kernel
theorem dL_isAct_0 : decode cL_isAct 0 = .ok (.aload_n 1, 1) := by decide +kernel
theorem dL_isAct_1 : decode cL_isAct 1 = .ok (.iload_n 2, 1) := by decide +kernel
theorem dL_isAct_2 : decode cL_isAct 2 = .ok (.iconst 1, 1) := by decide +kernel
theorem dL_isAct_3 : decode cL_isAct 3 = .ok (.iadd, 1) := by decide +kernel
theorem dL_isAct_4 : decode cL_isAct 4 = .ok (.aload_n 0, 1) := by decide +kernel
theorem dL_isAct_5 : decode cL_isAct 5 = .ok (.iconst 1, 1) := by decide +kernel
theorem dL_isAct_6 : decode cL_isAct 6 = .ok (.invokevirtual 8, 3) := by decide +kernel
theorem dL_isAct_9 : decode cL_isAct 9 = .ok (.invokestatic 131, 3) := by decide +kernel
theorem dL_isAct_12 : decode cL_isAct 12 = .ok (.istore_n 3, 1) := by decide +kernel
theorem dL_isAct_13 : decode cL_isAct 13 = .ok (.aload_n 1, 1) := by decide +kernel
theorem dL_isAct_14 : decode cL_isAct 14 = .ok (.iload_n 2, 1) := by decide +kernel
theorem dL_isAct_15 : decode cL_isAct 15 = .ok (.iconst 2, 1) := by decide +kernel
theorem dL_isAct_16 : decode cL_isAct 16 = .ok (.iadd, 1) := by decide +kernel
theorem dL_isAct_17 : decode cL_isAct 17 = .ok (.aload_n 0, 1) := by decide +kernel
theorem dL_isAct_18 : decode cL_isAct 18 = .ok (.iconst 1, 1) := by decide +kernel
theorem dL_isAct_19 : decode cL_isAct 19 = .ok (.invokevirtual 8, 3) := by decide +kernel
theorem dL_isAct_22 : decode cL_isAct 22 = .ok (.invokestatic 131, 3) := by decide +kernel
theorem dL_isAct_25 : decode cL_isAct 25 = .ok (.istore 4, 2) := by decide +kernel
theorem dL_isAct_27 : decode cL_isAct 27 = .ok (.aload_n 1, 1) := by decide +kernel
theorem dL_isAct_28 : decode cL_isAct 28 = .ok (.iload_n 2, 1) := by decide +kernel
theorem dL_isAct_29 : decode cL_isAct 29 = .ok (.iconst 3, 1) := by decide +kernel
theorem dL_isAct_30 : decode cL_isAct 30 = .ok (.iadd, 1) := by decide +kernel
theorem dL_isAct_31 : decode cL_isAct 31 = .ok (.aload_n 1, 1) := by decide +kernel
theorem dL_isAct_32 : decode cL_isAct 32 = .ok (.iload_n 2, 1) := by decide +kernel
theorem dL_isAct_33 : decode cL_isAct 33 = .ok (.iconst 4, 1) := by decide +kernel
theorem dL_isAct_34 : decode cL_isAct 34 = .ok (.iadd, 1) := by decide +kernel
theorem dL_isAct_35 : decode cL_isAct 35 = .ok (.iconst 3, 1) := by decide +kernel
theorem dL_isAct_36 : decode cL_isAct 36 = .ok (.invokestatic 131, 3) := by decide +kernel
theorem dL_isAct_39 : decode cL_isAct 39 = .ok (.ifCond .ne 9, 3) := by decide +kernel
theorem dL_isAct_42 : decode cL_isAct 42 = .ok (.sipush 9900, 3) := by decide +kernel
theorem dL_isAct_45 : decode cL_isAct 45 = .ok (.goto 6, 3) := by decide +kernel
theorem dL_isAct_48 : decode cL_isAct 48 = .ok (.sipush 200, 3) := by decide +kernel
theorem dL_isAct_51 : decode cL_isAct 51 = .ok (.invokestatic 131, 3) := by decide +kernel
theorem dL_isAct_54 : decode cL_isAct 54 = .ok (.istore 5, 2) := by decide +kernel
theorem dL_isAct_56 : decode cL_isAct 56 = .ok (.iconst 1, 1) := by decide +kernel
theorem dL_isAct_57 : decode cL_isAct 57 = .ok (.aload_n 1, 1) := by decide +kernel
theorem dL_isAct_58 : decode cL_isAct 58 = .ok (.iload_n 2, 1) := by decide +kernel
theorem dL_isAct_59 : decode cL_isAct 59 = .ok (.iconst 5, 1) := by decide +kernel
theorem dL_isAct_60 : decode cL_isAct 60 = .ok (.iadd, 1) := by decide +kernel
theorem dL_isAct_61 : decode cL_isAct 61 = .ok (.aload_n 1, 1) := by decide +kernel
theorem dL_isAct_62 : decode cL_isAct 62 = .ok (.iload_n 2, 1) := by decide +kernel
theorem dL_isAct_63 : decode cL_isAct 63 = .ok (.bipush 6, 2) := by decide +kernel
theorem dL_isAct_65 : decode cL_isAct 65 = .ok (.iadd, 1) := by decide +kernel
theorem dL_isAct_66 : decode cL_isAct 66 = .ok (.iconst 4, 1) := by decide +kernel
theorem dL_isAct_67 : decode cL_isAct 67 = .ok (.invokestatic 131, 3) := by decide +kernel
theorem dL_isAct_70 : decode cL_isAct 70 = .ok (.ifCond .ne 8, 3) := by decide +kernel
theorem dL_isAct_73 : decode cL_isAct 73 = .ok (.bipush 100, 2) := by decide +kernel
theorem dL_isAct_75 : decode cL_isAct 75 = .ok (.goto 5, 3) := by decide +kernel
theorem dL_isAct_78 : decode cL_isAct 78 = .ok (.bipush 30, 2) := by decide +kernel
theorem dL_isAct_80 : decode cL_isAct 80 = .ok (.invokestatic 131, 3) := by decide +kernel
theorem dL_isAct_83 : decode cL_isAct 83 = .ok (.iadd, 1) := by decide +kernel
theorem dL_isAct_84 : decode cL_isAct 84 = .ok (.istore 6, 2) := by decide +kernel
theorem dL_isAct_86 : decode cL_isAct 86 = .ok (.aload_n 1, 1) := by decide +kernel
theorem dL_isAct_87 : decode cL_isAct 87 = .ok (.iload_n 2, 1) := by decide +kernel
theorem dL_isAct_88 : decode cL_isAct 88 = .ok (.bipush 16, 2) := by decide +kernel
theorem dL_isAct_90 : decode cL_isAct 90 = .ok (.invokestatic 131, 3) := by decide +kernel
theorem dL_isAct_93 : decode cL_isAct 93 = .ok (.tableswitch 315 0 13 #[71, 71, 71, 71, 81, 90, 90, 116, 153, 153, 153, 275, 310, 310], 71) := by decide +kernel
theorem dL_isAct_164 : decode cL_isAct 164 = .ok (.aload_n 0, 1) := by decide +kernel
theorem dL_isAct_165 : decode cL_isAct 165 = .ok (.iload_n 3, 1) := by decide +kernel
theorem dL_isAct_166 : decode cL_isAct 166 = .ok (.iload 5, 2) := by decide +kernel
theorem dL_isAct_168 : decode cL_isAct 168 = .ok (.iload 6, 2) := by decide +kernel
theorem dL_isAct_170 : decode cL_isAct 170 = .ok (.invokestatic 135, 3) := by decide +kernel
theorem dL_isAct_173 : decode cL_isAct 173 = .ok (.ireturn, 1) := by decide +kernel
theorem dL_isAct_174 : decode cL_isAct 174 = .ok (.aload_n 0, 1) := by decide +kernel
theorem dL_isAct_175 : decode cL_isAct 175 = .ok (.iload 5, 2) := by decide +kernel
theorem dL_isAct_177 : decode cL_isAct 177 = .ok (.iload 6, 2) := by decide +kernel
theorem dL_isAct_179 : decode cL_isAct 179 = .ok (.invokestatic 138, 3) := by decide +kernel
theorem dL_isAct_182 : decode cL_isAct 182 = .ok (.ireturn, 1) := by decide +kernel
theorem dL_isAct_183 : decode cL_isAct 183 = .ok (.aload_n 0, 1) := by decide +kernel
theorem dL_isAct_184 : decode cL_isAct 184 = .ok (.iload_n 3, 1) := by decide +kernel
theorem dL_isAct_185 : decode cL_isAct 185 = .ok (.aload_n 1, 1) := by decide +kernel
theorem dL_isAct_186 : decode cL_isAct 186 = .ok (.iload_n 2, 1) := by decide +kernel
theorem dL_isAct_187 : decode cL_isAct 187 = .ok (.iconst 4, 1) := by decide +kernel
theorem dL_isAct_188 : decode cL_isAct 188 = .ok (.iadd, 1) := by decide +kernel
theorem dL_isAct_189 : decode cL_isAct 189 = .ok (.bipush 9, 2) := by decide +kernel
theorem dL_isAct_191 : decode cL_isAct 191 = .ok (.invokestatic 131, 3) := by decide +kernel
theorem dL_isAct_194 : decode cL_isAct 194 = .ok (.ifCond .ne 9, 3) := by decide +kernel
theorem dL_isAct_197 : decode cL_isAct 197 = .ok (.sipush 10000, 3) := by decide +kernel
theorem dL_isAct_200 : decode cL_isAct 200 = .ok (.goto 5, 3) := by decide +kernel
theorem dL_isAct_203 : decode cL_isAct 203 = .ok (.iload 6, 2) := by decide +kernel
theorem dL_isAct_205 : decode cL_isAct 205 = .ok (.invokestatic 142, 3) := by decide +kernel
theorem dL_isAct_208 : decode cL_isAct 208 = .ok (.ireturn, 1) := by decide +kernel
theorem dL_isAct_209 : decode cL_isAct 209 = .ok (.aload_n 1, 1) := by decide +kernel
theorem dL_isAct_210 : decode cL_isAct 210 = .ok (.iload_n 2, 1) := by decide +kernel
theorem dL_isAct_211 : decode cL_isAct 211 = .ok (.iconst 3, 1) := by decide +kernel
theorem dL_isAct_212 : decode cL_isAct 212 = .ok (.iadd, 1) := by decide +kernel
theorem dL_isAct_213 : decode cL_isAct 213 = .ok (.iconst 3, 1) := by decide +kernel
theorem dL_isAct_214 : decode cL_isAct 214 = .ok (.invokestatic 131, 3) := by decide +kernel
theorem dL_isAct_217 : decode cL_isAct 217 = .ok (.ifCond .ne 13, 3) := by decide +kernel
theorem dL_isAct_220 : decode cL_isAct 220 = .ok (.aload_n 0, 1) := by decide +kernel
theorem dL_isAct_221 : decode cL_isAct 221 = .ok (.iload_n 3, 1) := by decide +kernel
theorem dL_isAct_222 : decode cL_isAct 222 = .ok (.iload 4, 2) := by decide +kernel
theorem dL_isAct_224 : decode cL_isAct 224 = .ok (.invokestatic 145, 3) := by decide +kernel
theorem dL_isAct_227 : decode cL_isAct 227 = .ok (.goto 18, 3) := by decide +kernel
theorem dL_isAct_230 : decode cL_isAct 230 = .ok (.aload_n 0, 1) := by decide +kernel
theorem dL_isAct_231 : decode cL_isAct 231 = .ok (.iload_n 3, 1) := by decide +kernel
theorem dL_isAct_232 : decode cL_isAct 232 = .ok (.aload_n 1, 1) := by decide +kernel
theorem dL_isAct_233 : decode cL_isAct 233 = .ok (.iload_n 2, 1) := by decide +kernel
theorem dL_isAct_234 : decode cL_isAct 234 = .ok (.iconst 5, 1) := by decide +kernel
theorem dL_isAct_235 : decode cL_isAct 235 = .ok (.iadd, 1) := by decide +kernel
theorem dL_isAct_236 : decode cL_isAct 236 = .ok (.sipush 900, 3) := by decide +kernel
theorem dL_isAct_239 : decode cL_isAct 239 = .ok (.invokestatic 131, 3) := by decide +kernel
theorem dL_isAct_242 : decode cL_isAct 242 = .ok (.invokestatic 148, 3) := by decide +kernel
theorem dL_isAct_245 : decode cL_isAct 245 = .ok (.ireturn, 1) := by decide +kernel
theorem dL_isAct_246 : decode cL_isAct 246 = .ok (.aload_n 0, 1) := by decide +kernel
theorem dL_isAct_247 : decode cL_isAct 247 = .ok (.iconst 2, 1) := by decide +kernel
theorem dL_isAct_248 : decode cL_isAct 248 = .ok (.invokevirtual 8, 3) := by decide +kernel
theorem dL_isAct_251 : decode cL_isAct 251 = .ok (.ifCond .ne 7, 3) := by decide +kernel
theorem dL_isAct_254 : decode cL_isAct 254 = .ok (.iconst (-1), 1) := by decide +kernel
theorem dL_isAct_255 : decode cL_isAct 255 = .ok (.goto 15, 3) := by decide +kernel
theorem dL_isAct_258 : decode cL_isAct 258 = .ok (.aload_n 1, 1) := by decide +kernel
theorem dL_isAct_259 : decode cL_isAct 259 = .ok (.iload_n 2, 1) := by decide +kernel
theorem dL_isAct_260 : decode cL_isAct 260 = .ok (.iconst 4, 1) := by decide +kernel
theorem dL_isAct_261 : decode cL_isAct 261 = .ok (.iadd, 1) := by decide +kernel
theorem dL_isAct_262 : decode cL_isAct 262 = .ok (.aload_n 0, 1) := by decide +kernel
theorem dL_isAct_263 : decode cL_isAct 263 = .ok (.iconst 2, 1) := by decide +kernel
theorem dL_isAct_264 : decode cL_isAct 264 = .ok (.invokevirtual 8, 3) := by decide +kernel
theorem dL_isAct_267 : decode cL_isAct 267 = .ok (.invokestatic 131, 3) := by decide +kernel
theorem dL_isAct_270 : decode cL_isAct 270 = .ok (.istore 7, 2) := by decide +kernel
theorem dL_isAct_272 : decode cL_isAct 272 = .ok (.aload_n 1, 1) := by decide +kernel
theorem dL_isAct_273 : decode cL_isAct 273 = .ok (.iload_n 2, 1) := by decide +kernel
theorem dL_isAct_274 : decode cL_isAct 274 = .ok (.iconst 5, 1) := by decide +kernel
theorem dL_isAct_275 : decode cL_isAct 275 = .ok (.iadd, 1) := by decide +kernel
theorem dL_isAct_276 : decode cL_isAct 276 = .ok (.iconst 2, 1) := by decide +kernel
theorem dL_isAct_277 : decode cL_isAct 277 = .ok (.invokestatic 131, 3) := by decide +kernel
theorem dL_isAct_280 : decode cL_isAct 280 = .ok (.ifCond .ne 7, 3) := by decide +kernel
theorem dL_isAct_283 : decode cL_isAct 283 = .ok (.iconst 1, 1) := by decide +kernel
theorem dL_isAct_284 : decode cL_isAct 284 = .ok (.goto 4, 3) := by decide +kernel
theorem dL_isAct_287 : decode cL_isAct 287 = .ok (.iconst 0, 1) := by decide +kernel
theorem dL_isAct_288 : decode cL_isAct 288 = .ok (.istore 8, 2) := by decide +kernel
theorem dL_isAct_290 : decode cL_isAct 290 = .ok (.iload 7, 2) := by decide +kernel
theorem dL_isAct_292 : decode cL_isAct 292 = .ok (.ifCond .ge 28, 3) := by decide +kernel
theorem dL_isAct_295 : decode cL_isAct 295 = .ok (.aload_n 0, 1) := by decide +kernel
theorem dL_isAct_296 : decode cL_isAct 296 = .ok (.iload_n 3, 1) := by decide +kernel
theorem dL_isAct_297 : decode cL_isAct 297 = .ok (.iload 4, 2) := by decide +kernel
theorem dL_isAct_299 : decode cL_isAct 299 = .ok (.iload 5, 2) := by decide +kernel
theorem dL_isAct_301 : decode cL_isAct 301 = .ok (.iload 6, 2) := by decide +kernel
theorem dL_isAct_303 : decode cL_isAct 303 = .ok (.aload_n 1, 1) := by decide +kernel
theorem dL_isAct_304 : decode cL_isAct 304 = .ok (.iload_n 2, 1) := by decide +kernel
theorem dL_isAct_305 : decode cL_isAct 305 = .ok (.bipush 6, 2) := by decide +kernel
theorem dL_isAct_307 : decode cL_isAct 307 = .ok (.iadd, 1) := by decide +kernel
theorem dL_isAct_308 : decode cL_isAct 308 = .ok (.sipush 300, 3) := by decide +kernel
theorem dL_isAct_311 : decode cL_isAct 311 = .ok (.invokestatic 131, 3) := by decide +kernel
theorem dL_isAct_314 : decode cL_isAct 314 = .ok (.invokestatic 151, 3) := by decide +kernel
theorem dL_isAct_317 : decode cL_isAct 317 = .ok (.goto 50, 3) := by decide +kernel
theorem dL_isAct_320 : decode cL_isAct 320 = .ok (.aload_n 0, 1) := by decide +kernel
theorem dL_isAct_321 : decode cL_isAct 321 = .ok (.aload_n 0, 1) := by decide +kernel
theorem dL_isAct_322 : decode cL_isAct 322 = .ok (.iload 7, 2) := by decide +kernel
theorem dL_isAct_324 : decode cL_isAct 324 = .ok (.iconst 0, 1) := by decide +kernel
theorem dL_isAct_325 : decode cL_isAct 325 = .ok (.invokevirtual 14, 3) := by decide +kernel
theorem dL_isAct_328 : decode cL_isAct 328 = .ok (.iload 4, 2) := by decide +kernel
theorem dL_isAct_330 : decode cL_isAct 330 = .ok (.aload_n 0, 1) := by decide +kernel
theorem dL_isAct_331 : decode cL_isAct 331 = .ok (.iload 7, 2) := by decide +kernel
theorem dL_isAct_333 : decode cL_isAct 333 = .ok (.iconst 1, 1) := by decide +kernel
theorem dL_isAct_334 : decode cL_isAct 334 = .ok (.invokevirtual 14, 3) := by decide +kernel
theorem dL_isAct_337 : decode cL_isAct 337 = .ok (.iload 8, 2) := by decide +kernel
theorem dL_isAct_339 : decode cL_isAct 339 = .ok (.ifCond .eq 13, 3) := by decide +kernel
theorem dL_isAct_342 : decode cL_isAct 342 = .ok (.aload_n 0, 1) := by decide +kernel
theorem dL_isAct_343 : decode cL_isAct 343 = .ok (.iload 7, 2) := by decide +kernel
theorem dL_isAct_345 : decode cL_isAct 345 = .ok (.iconst 2, 1) := by decide +kernel
theorem dL_isAct_346 : decode cL_isAct 346 = .ok (.invokevirtual 14, 3) := by decide +kernel
theorem dL_isAct_349 : decode cL_isAct 349 = .ok (.goto 4, 3) := by decide +kernel
theorem dL_isAct_352 : decode cL_isAct 352 = .ok (.iconst 1, 1) := by decide +kernel
theorem dL_isAct_353 : decode cL_isAct 353 = .ok (.aload_n 1, 1) := by decide +kernel
theorem dL_isAct_354 : decode cL_isAct 354 = .ok (.iload_n 2, 1) := by decide +kernel
theorem dL_isAct_355 : decode cL_isAct 355 = .ok (.bipush 6, 2) := by decide +kernel
theorem dL_isAct_357 : decode cL_isAct 357 = .ok (.iadd, 1) := by decide +kernel
theorem dL_isAct_358 : decode cL_isAct 358 = .ok (.sipush 300, 3) := by decide +kernel
theorem dL_isAct_361 : decode cL_isAct 361 = .ok (.invokestatic 131, 3) := by decide +kernel
theorem dL_isAct_364 : decode cL_isAct 364 = .ok (.invokestatic 151, 3) := by decide +kernel
theorem dL_isAct_367 : decode cL_isAct 367 = .ok (.ireturn, 1) := by decide +kernel
theorem dL_isAct_368 : decode cL_isAct 368 = .ok (.aload_n 0, 1) := by decide +kernel
theorem dL_isAct_369 : decode cL_isAct 369 = .ok (.bipush 6, 2) := by decide +kernel
theorem dL_isAct_371 : decode cL_isAct 371 = .ok (.invokevirtual 8, 3) := by decide +kernel
theorem dL_isAct_374 : decode cL_isAct 374 = .ok (.istore 9, 2) := by decide +kernel
theorem dL_isAct_376 : decode cL_isAct 376 = .ok (.aload_n 0, 1) := by decide +kernel
theorem dL_isAct_377 : decode cL_isAct 377 = .ok (.invokevirtual 155, 3) := by decide +kernel
theorem dL_isAct_380 : decode cL_isAct 380 = .ok (.iload 9, 2) := by decide +kernel
theorem dL_isAct_382 : decode cL_isAct 382 = .ok (.ifCond .ne 8, 3) := by decide +kernel
theorem dL_isAct_385 : decode cL_isAct 385 = .ok (.bipush (-5), 2) := by decide +kernel
theorem dL_isAct_387 : decode cL_isAct 387 = .ok (.goto 7, 3) := by decide +kernel
theorem dL_isAct_390 : decode cL_isAct 390 = .ok (.iload 9, 2) := by decide +kernel
theorem dL_isAct_392 : decode cL_isAct 392 = .ok (.iconst 1, 1) := by decide +kernel
theorem dL_isAct_393 : decode cL_isAct 393 = .ok (.isub, 1) := by decide +kernel
theorem dL_isAct_394 : decode cL_isAct 394 = .ok (.if_icmp .ne 7, 3) := by decide +kernel
theorem dL_isAct_397 : decode cL_isAct 397 = .ok (.iconst 1, 1) := by decide +kernel
theorem dL_isAct_398 : decode cL_isAct 398 = .ok (.goto 4, 3) := by decide +kernel
theorem dL_isAct_401 : decode cL_isAct 401 = .ok (.iconst 0, 1) := by decide +kernel
theorem dL_isAct_402 : decode cL_isAct 402 = .ok (.ireturn, 1) := by decide +kernel
theorem dL_isAct_403 : decode cL_isAct 403 = .ok (.aload_n 0, 1) := by decide +kernel
theorem dL_isAct_404 : decode cL_isAct 404 = .ok (.invokestatic 158, 3) := by decide +kernel
theorem dL_isAct_407 : decode cL_isAct 407 = .ok (.ireturn, 1) := by decide +kernel
theorem dL_isAct_408 : decode cL_isAct 408 = .ok (.aload_n 0, 1) := by decide +kernel
theorem dL_isAct_409 : decode cL_isAct 409 = .ok (.invokestatic 162, 3) := by decide +kernel
theorem dL_isAct_412 : decode cL_isAct 412 = .ok (.ireturn, 1) := by decide +kernel
theorem dL_law_0 : decode cL_law 0 = .ok (.new 9, 3) := by decide +kernel
theorem dL_law_3 : decode cL_law 3 = .ok (.dup, 1) := by decide +kernel
theorem dL_law_4 : decode cL_law 4 = .ok (.invokespecial 165, 3) := by decide +kernel
theorem dL_law_7 : decode cL_law 7 = .ok (.astore_n 1, 1) := by decide +kernel
theorem dL_law_8 : decode cL_law 8 = .ok (.aload_n 1, 1) := by decide +kernel
theorem dL_law_9 : decode cL_law 9 = .ok (.iconst 0, 1) := by decide +kernel
theorem dL_law_10 : decode cL_law 10 = .ok (.aload_n 0, 1) := by decide +kernel
theorem dL_law_11 : decode cL_law 11 = .ok (.iconst 0, 1) := by decide +kernel
theorem dL_law_12 : decode cL_law 12 = .ok (.bipush 30, 2) := by decide +kernel
theorem dL_law_14 : decode cL_law 14 = .ok (.invokestatic 131, 3) := by decide +kernel
theorem dL_law_17 : decode cL_law 17 = .ok (.invokevirtual 166, 3) := by decide +kernel
theorem dL_law_20 : decode cL_law 20 = .ok (.pop, 1) := by decide +kernel
theorem dL_law_21 : decode cL_law 21 = .ok (.aload_n 1, 1) := by decide +kernel
theorem dL_law_22 : decode cL_law 22 = .ok (.iconst 1, 1) := by decide +kernel
theorem dL_law_23 : decode cL_law 23 = .ok (.aload_n 0, 1) := by decide +kernel
theorem dL_law_24 : decode cL_law 24 = .ok (.iconst 1, 1) := by decide +kernel
theorem dL_law_25 : decode cL_law 25 = .ok (.bipush 60, 2) := by decide +kernel
theorem dL_law_27 : decode cL_law 27 = .ok (.invokestatic 131, 3) := by decide +kernel
theorem dL_law_30 : decode cL_law 30 = .ok (.invokevirtual 166, 3) := by decide +kernel
theorem dL_law_33 : decode cL_law 33 = .ok (.pop, 1) := by decide +kernel
theorem dL_law_34 : decode cL_law 34 = .ok (.aload_n 1, 1) := by decide +kernel
theorem dL_law_35 : decode cL_law 35 = .ok (.iconst 2, 1) := by decide +kernel
theorem dL_law_36 : decode cL_law 36 = .ok (.aload_n 0, 1) := by decide +kernel
theorem dL_law_37 : decode cL_law 37 = .ok (.iconst 2, 1) := by decide +kernel
theorem dL_law_38 : decode cL_law 38 = .ok (.bipush 20, 2) := by decide +kernel
theorem dL_law_40 : decode cL_law 40 = .ok (.invokestatic 131, 3) := by decide +kernel
theorem dL_law_43 : decode cL_law 43 = .ok (.invokevirtual 166, 3) := by decide +kernel
theorem dL_law_46 : decode cL_law 46 = .ok (.pop, 1) := by decide +kernel
theorem dL_law_47 : decode cL_law 47 = .ok (.aload_n 1, 1) := by decide +kernel
theorem dL_law_48 : decode cL_law 48 = .ok (.iconst 3, 1) := by decide +kernel
theorem dL_law_49 : decode cL_law 49 = .ok (.iconst 1, 1) := by decide +kernel
theorem dL_law_50 : decode cL_law 50 = .ok (.aload_n 0, 1) := by decide +kernel
theorem dL_law_51 : decode cL_law 51 = .ok (.iconst 3, 1) := by decide +kernel
theorem dL_law_52 : decode cL_law 52 = .ok (.bipush 8, 2) := by decide +kernel
theorem dL_law_54 : decode cL_law 54 = .ok (.invokestatic 131, 3) := by decide +kernel
theorem dL_law_57 : decode cL_law 57 = .ok (.iadd, 1) := by decide +kernel
theorem dL_law_58 : decode cL_law 58 = .ok (.invokevirtual 166, 3) := by decide +kernel
theorem dL_law_61 : decode cL_law 61 = .ok (.pop, 1) := by decide +kernel
theorem dL_law_62 : decode cL_law 62 = .ok (.aload_n 1, 1) := by decide +kernel
theorem dL_law_63 : decode cL_law 63 = .ok (.iconst 4, 1) := by decide +kernel
theorem dL_law_64 : decode cL_law 64 = .ok (.aload_n 0, 1) := by decide +kernel
theorem dL_law_65 : decode cL_law 65 = .ok (.iconst 4, 1) := by decide +kernel
theorem dL_law_66 : decode cL_law 66 = .ok (.iconst 2, 1) := by decide +kernel
theorem dL_law_67 : decode cL_law 67 = .ok (.invokestatic 131, 3) := by decide +kernel
theorem dL_law_70 : decode cL_law 70 = .ok (.ifCond .ne 9, 3) := by decide +kernel
theorem dL_law_73 : decode cL_law 73 = .ok (.sipush 10000, 3) := by decide +kernel
theorem dL_law_76 : decode cL_law 76 = .ok (.goto 14, 3) := by decide +kernel
theorem dL_law_79 : decode cL_law 79 = .ok (.bipush 50, 2) := by decide +kernel
theorem dL_law_81 : decode cL_law 81 = .ok (.aload_n 0, 1) := by decide +kernel
theorem dL_law_82 : decode cL_law 82 = .ok (.iconst 4, 1) := by decide +kernel
theorem dL_law_83 : decode cL_law 83 = .ok (.sipush 300, 3) := by decide +kernel
theorem dL_law_86 : decode cL_law 86 = .ok (.invokestatic 131, 3) := by decide +kernel
theorem dL_law_89 : decode cL_law 89 = .ok (.iadd, 1) := by decide +kernel
theorem dL_law_90 : decode cL_law 90 = .ok (.invokevirtual 166, 3) := by decide +kernel
theorem dL_law_93 : decode cL_law 93 = .ok (.pop, 1) := by decide +kernel
theorem dL_law_94 : decode cL_law 94 = .ok (.iconst 2, 1) := by decide +kernel
theorem dL_law_95 : decode cL_law 95 = .ok (.aload_n 0, 1) := by decide +kernel
theorem dL_law_96 : decode cL_law 96 = .ok (.iconst 5, 1) := by decide +kernel
theorem dL_law_97 : decode cL_law 97 = .ok (.iconst 4, 1) := by decide +kernel
theorem dL_law_98 : decode cL_law 98 = .ok (.invokestatic 131, 3) := by decide +kernel
theorem dL_law_101 : decode cL_law 101 = .ok (.iadd, 1) := by decide +kernel
theorem dL_law_102 : decode cL_law 102 = .ok (.istore_n 2, 1) := by decide +kernel
theorem dL_law_103 : decode cL_law 103 = .ok (.iconst 0, 1) := by decide +kernel
theorem dL_law_104 : decode cL_law 104 = .ok (.istore_n 3, 1) := by decide +kernel
theorem dL_law_105 : decode cL_law 105 = .ok (.iload_n 3, 1) := by decide +kernel
theorem dL_law_106 : decode cL_law 106 = .ok (.iload_n 2, 1) := by decide +kernel
theorem dL_law_107 : decode cL_law 107 = .ok (.if_icmp .ge 30, 3) := by decide +kernel
theorem dL_law_110 : decode cL_law 110 = .ok (.aload_n 1, 1) := by decide +kernel
theorem dL_law_111 : decode cL_law 111 = .ok (.aload_n 0, 1) := by decide +kernel
theorem dL_law_112 : decode cL_law 112 = .ok (.bipush 6, 2) := by decide +kernel
theorem dL_law_114 : decode cL_law 114 = .ok (.iload_n 3, 1) := by decide +kernel
theorem dL_law_115 : decode cL_law 115 = .ok (.iadd, 1) := by decide +kernel
theorem dL_law_116 : decode cL_law 116 = .ok (.sipush 3000, 3) := by decide +kernel
theorem dL_law_119 : decode cL_law 119 = .ok (.invokestatic 131, 3) := by decide +kernel
theorem dL_law_122 : decode cL_law 122 = .ok (.invokevirtual 169, 3) := by decide +kernel
theorem dL_law_125 : decode cL_law 125 = .ok (.iload_n 3, 1) := by decide +kernel
theorem dL_law_126 : decode cL_law 126 = .ok (.if_icmp .eq 5, 3) := by decide +kernel
theorem dL_law_129 : decode cL_law 129 = .ok (.iconst 0, 1) := by decide +kernel
theorem dL_law_130 : decode cL_law 130 = .ok (.ireturn, 1) := by decide +kernel
theorem dL_law_131 : decode cL_law 131 = .ok (.iinc 3 1, 3) := by decide +kernel
theorem dL_law_134 : decode cL_law 134 = .ok (.goto (-29), 3) := by decide +kernel
theorem dL_law_137 : decode cL_law 137 = .ok (.iconst 0, 1) := by decide +kernel
theorem dL_law_138 : decode cL_law 138 = .ok (.istore_n 3, 1) := by decide +kernel
theorem dL_law_139 : decode cL_law 139 = .ok (.iload_n 3, 1) := by decide +kernel
theorem dL_law_140 : decode cL_law 140 = .ok (.bipush 44, 2) := by decide +kernel
theorem dL_law_142 : decode cL_law 142 = .ok (.if_icmp .ge 33, 3) := by decide +kernel
theorem dL_law_145 : decode cL_law 145 = .ok (.aload_n 1, 1) := by decide +kernel
theorem dL_law_146 : decode cL_law 146 = .ok (.aload_n 0, 1) := by decide +kernel
theorem dL_law_147 : decode cL_law 147 = .ok (.bipush 12, 2) := by decide +kernel
theorem dL_law_149 : decode cL_law 149 = .ok (.bipush 7, 2) := by decide +kernel
theorem dL_law_151 : decode cL_law 151 = .ok (.iload_n 3, 1) := by decide +kernel
theorem dL_law_152 : decode cL_law 152 = .ok (.imul, 1) := by decide +kernel
theorem dL_law_153 : decode cL_law 153 = .ok (.iadd, 1) := by decide +kernel
theorem dL_law_154 : decode cL_law 154 = .ok (.invokestatic 172, 3) := by decide +kernel
theorem dL_law_157 : decode cL_law 157 = .ok (.ifCond .eq 10, 3) := by decide +kernel
theorem dL_law_160 : decode cL_law 160 = .ok (.aload_n 1, 1) := by decide +kernel
theorem dL_law_161 : decode cL_law 161 = .ok (.invokestatic 176, 3) := by decide +kernel
theorem dL_law_164 : decode cL_law 164 = .ok (.ifCond .ne 5, 3) := by decide +kernel
theorem dL_law_167 : decode cL_law 167 = .ok (.iconst 0, 1) := by decide +kernel
theorem dL_law_168 : decode cL_law 168 = .ok (.ireturn, 1) := by decide +kernel
theorem dL_law_169 : decode cL_law 169 = .ok (.iinc 3 1, 3) := by decide +kernel
theorem dL_law_172 : decode cL_law 172 = .ok (.goto (-33), 3) := by decide +kernel
theorem dL_law_175 : decode cL_law 175 = .ok (.iconst 0, 1) := by decide +kernel
theorem dL_law_176 : decode cL_law 176 = .ok (.istore_n 3, 1) := by decide +kernel
theorem dL_law_177 : decode cL_law 177 = .ok (.iload_n 3, 1) := by decide +kernel
theorem dL_law_178 : decode cL_law 178 = .ok (.bipush 42, 2) := by decide +kernel
theorem dL_law_180 : decode cL_law 180 = .ok (.if_icmp .ge 37, 3) := by decide +kernel
theorem dL_law_183 : decode cL_law 183 = .ok (.aload_n 1, 1) := by decide +kernel
theorem dL_law_184 : decode cL_law 184 = .ok (.aload_n 0, 1) := by decide +kernel
theorem dL_law_185 : decode cL_law 185 = .ok (.sipush 330, 3) := by decide +kernel
theorem dL_law_188 : decode cL_law 188 = .ok (.iload_n 3, 1) := by decide +kernel
theorem dL_law_189 : decode cL_law 189 = .ok (.iadd, 1) := by decide +kernel
theorem dL_law_190 : decode cL_law 190 = .ok (.iload_n 2, 1) := by decide +kernel
theorem dL_law_191 : decode cL_law 191 = .ok (.invokestatic 131, 3) := by decide +kernel
theorem dL_law_194 : decode cL_law 194 = .ok (.sipush 9000, 3) := by decide +kernel
theorem dL_law_197 : decode cL_law 197 = .ok (.bipush 20, 2) := by decide +kernel
theorem dL_law_199 : decode cL_law 199 = .ok (.iload_n 3, 1) := by decide +kernel
theorem dL_law_200 : decode cL_law 200 = .ok (.imul, 1) := by decide +kernel
theorem dL_law_201 : decode cL_law 201 = .ok (.iadd, 1) := by decide +kernel
theorem dL_law_202 : decode cL_law 202 = .ok (.iconst 5, 1) := by decide +kernel
theorem dL_law_203 : decode cL_law 203 = .ok (.invokestatic 135, 3) := by decide +kernel
theorem dL_law_206 : decode cL_law 206 = .ok (.ifCond .ne 5, 3) := by decide +kernel
theorem dL_law_209 : decode cL_law 209 = .ok (.iconst 0, 1) := by decide +kernel
theorem dL_law_210 : decode cL_law 210 = .ok (.ireturn, 1) := by decide +kernel
theorem dL_law_211 : decode cL_law 211 = .ok (.iinc 3 1, 3) := by decide +kernel
theorem dL_law_214 : decode cL_law 214 = .ok (.goto (-37), 3) := by decide +kernel
theorem dL_law_217 : decode cL_law 217 = .ok (.aload_n 1, 1) := by decide +kernel
theorem dL_law_218 : decode cL_law 218 = .ok (.invokestatic 176, 3) := by decide +kernel
theorem dL_law_221 : decode cL_law 221 = .ok (.ireturn, 1) := by decide +kernel
