theorem dX5_append_70 : decode cX5_append 70 = .ok (.goto 71, 3) := by decide +kernel
theorem dX5_append_73 : decode cX5_append 73 = .ok (.aload_n 0, 1) := by decide +kernel
theorem dX5_append_74 : decode cX5_append 74 = .ok (.getfield 36, 3) := by decide +kernel
theorem dX5_append_77 : decode cX5_append 77 = .ok (.bipush 42, 2) := by decide +kernel
theorem dX5_append_79 : decode cX5_append 79 = .ok (.if_icmp .ge 61, 3) := by decide +kernel
theorem dX5_append_82 : decode cX5_append 82 = .ok (.aload_n 0, 1) := by decide +kernel
theorem dX5_append_83 : decode cX5_append 83 = .ok (.getfield 14, 3) := by decide +kernel
theorem dX5_append_86 : decode cX5_append 86 = .ok (.aload_n 0, 1) := by decide +kernel
theorem dX5_append_87 : decode cX5_append 87 = .ok (.getfield 36, 3) := by decide +kernel
theorem dX5_append_90 : decode cX5_append 90 = .ok (.iload_n 1, 1) := by decide +kernel
theorem dX5_append_91 : decode cX5_append 91 = .ok (.invokevirtual 55, 3) := by decide +kernel
theorem dX5_append_94 : decode cX5_append 94 = .ok (.aload_n 0, 1) := by decide +kernel
theorem dX5_append_95 : decode cX5_append 95 = .ok (.getfield 20, 3) := by decide +kernel
theorem dX5_append_98 : decode cX5_append 98 = .ok (.aload_n 0, 1) := by decide +kernel
theorem dX5_append_99 : decode cX5_append 99 = .ok (.getfield 36, 3) := by decide +kernel
theorem dX5_append_102 : decode cX5_append 102 = .ok (.iload_n 2, 1) := by decide +kernel
theorem dX5_append_103 : decode cX5_append 103 = .ok (.invokevirtual 55, 3) := by decide +kernel
theorem dX5_append_106 : decode cX5_append 106 = .ok (.aload_n 0, 1) := by decide +kernel
theorem dX5_append_107 : decode cX5_append 107 = .ok (.getfield 23, 3) := by decide +kernel
theorem dX5_append_110 : decode cX5_append 110 = .ok (.aload_n 0, 1) := by decide +kernel
theorem dX5_append_111 : decode cX5_append 111 = .ok (.getfield 36, 3) := by decide +kernel
theorem dX5_append_114 : decode cX5_append 114 = .ok (.iload_n 3, 1) := by decide +kernel
theorem dX5_append_115 : decode cX5_append 115 = .ok (.invokevirtual 55, 3) := by decide +kernel
theorem dX5_append_118 : decode cX5_append 118 = .ok (.aload_n 0, 1) := by decide +kernel
theorem dX5_append_119 : decode cX5_append 119 = .ok (.getfield 26, 3) := by decide +kernel
theorem dX5_append_122 : decode cX5_append 122 = .ok (.iload_n 1, 1) := by decide +kernel
theorem dX5_append_123 : decode cX5_append 123 = .ok (.iconst 1, 1) := by decide +kernel
theorem dX5_append_124 : decode cX5_append 124 = .ok (.invokevirtual 51, 3) := by decide +kernel
theorem dX5_append_127 : decode cX5_append 127 = .ok (.aload_n 0, 1) := by decide +kernel
theorem dX5_append_128 : decode cX5_append 128 = .ok (.dup, 1) := by decide +kernel
theorem dX5_append_129 : decode cX5_append 129 = .ok (.getfield 36, 3) := by decide +kernel
theorem dX5_append_132 : decode cX5_append 132 = .ok (.iconst 1, 1) := by decide +kernel
theorem dX5_append_133 : decode cX5_append 133 = .ok (.iadd, 1) := by decide +kernel
theorem dX5_append_134 : decode cX5_append 134 = .ok (.putfield 36, 3) := by decide +kernel
theorem dX5_append_137 : decode cX5_append 137 = .ok (.goto 4, 3) := by decide +kernel
theorem dX5_append_140 : decode cX5_append 140 = .ok (.return_, 1) := by decide +kernel
theorem dX5_append_141 : decode cX5_append 141 = .ok (.aload_n 0, 1) := by decide +kernel
theorem dX5_append_142 : decode cX5_append 142 = .ok (.getfield 29, 3) := by decide +kernel
theorem dX5_append_145 : decode cX5_append 145 = .ok (.iload_n 1, 1) := by decide +kernel
theorem dX5_append_146 : decode cX5_append 146 = .ok (.iload_n 3, 1) := by decide +kernel
theorem dX5_append_147 : decode cX5_append 147 = .ok (.invokevirtual 51, 3) := by decide +kernel
theorem dX5_append_150 : decode cX5_append 150 = .ok (.return_, 1) := by decide +kernel
theorem dX5_become_0 : decode cX5_become 0 = .ok (.iload_n 3, 1) := by decide +kernel
theorem dX5_become_1 : decode cX5_become 1 = .ok (.iload 4, 2) := by decide +kernel
theorem dX5_become_3 : decode cX5_become 3 = .ok (.iadd, 1) := by decide +kernel
theorem dX5_become_4 : decode cX5_become 4 = .ok (.istore 5, 2) := by decide +kernel
theorem dX5_become_6 : decode cX5_become 6 = .ok (.aload_n 0, 1) := by decide +kernel
theorem dX5_become_7 : decode cX5_become 7 = .ok (.invokevirtual 58, 3) := by decide +kernel
theorem dX5_become_10 : decode cX5_become 10 = .ok (.iconst 0, 1) := by decide +kernel
theorem dX5_become_11 : decode cX5_become 11 = .ok (.istore 6, 2) := by decide +kernel
theorem dX5_become_13 : decode cX5_become 13 = .ok (.iload 6, 2) := by decide +kernel
theorem dX5_become_15 : decode cX5_become 15 = .ok (.aload_n 1, 1) := by decide +kernel
theorem dX5_become_16 : decode cX5_become 16 = .ok (.getfield 36, 3) := by decide +kernel
theorem dX5_become_19 : decode cX5_become 19 = .ok (.if_icmp .ge 51, 3) := by decide +kernel
theorem dX5_become_22 : decode cX5_become 22 = .ok (.aload_n 0, 1) := by decide +kernel
theorem dX5_become_23 : decode cX5_become 23 = .ok (.aload_n 1, 1) := by decide +kernel
theorem dX5_become_24 : decode cX5_become 24 = .ok (.getfield 14, 3) := by decide +kernel
theorem dX5_become_27 : decode cX5_become 27 = .ok (.iload 6, 2) := by decide +kernel
theorem dX5_become_29 : decode cX5_become 29 = .ok (.invokevirtual 43, 3) := by decide +kernel
theorem dX5_become_32 : decode cX5_become 32 = .ok (.aload_n 1, 1) := by decide +kernel
theorem dX5_become_33 : decode cX5_become 33 = .ok (.getfield 20, 3) := by decide +kernel
theorem dX5_become_36 : decode cX5_become 36 = .ok (.iload 6, 2) := by decide +kernel
theorem dX5_become_38 : decode cX5_become 38 = .ok (.invokevirtual 43, 3) := by decide +kernel
theorem dX5_become_41 : decode cX5_become 41 = .ok (.aload_n 1, 1) := by decide +kernel
theorem dX5_become_42 : decode cX5_become 42 = .ok (.iload 6, 2) := by decide +kernel
theorem dX5_become_44 : decode cX5_become 44 = .ok (.invokevirtual 59, 3) := by decide +kernel
theorem dX5_become_47 : decode cX5_become 47 = .ok (.iload_n 3, 1) := by decide +kernel
theorem dX5_become_48 : decode cX5_become 48 = .ok (.invokestatic 62, 3) := by decide +kernel
theorem dX5_become_51 : decode cX5_become 51 = .ok (.aload_n 1, 1) := by decide +kernel
theorem dX5_become_52 : decode cX5_become 52 = .ok (.getfield 20, 3) := by decide +kernel
theorem dX5_become_55 : decode cX5_become 55 = .ok (.iload 6, 2) := by decide +kernel
theorem dX5_become_57 : decode cX5_become 57 = .ok (.invokevirtual 43, 3) := by decide +kernel
theorem dX5_become_60 : decode cX5_become 60 = .ok (.isub, 1) := by decide +kernel
theorem dX5_become_61 : decode cX5_become 61 = .ok (.invokevirtual 68, 3) := by decide +kernel
theorem dX5_become_64 : decode cX5_become 64 = .ok (.iinc 6 1, 3) := by decide +kernel
theorem dX5_become_67 : decode cX5_become 67 = .ok (.goto (-54), 3) := by decide +kernel
theorem dX5_become_70 : decode cX5_become 70 = .ok (.aload_n 0, 1) := by decide +kernel
theorem dX5_become_71 : decode cX5_become 71 = .ok (.iload_n 2, 1) := by decide +kernel
theorem dX5_become_72 : decode cX5_become 72 = .ok (.iload_n 3, 1) := by decide +kernel
theorem dX5_become_73 : decode cX5_become 73 = .ok (.iload 4, 2) := by decide +kernel
theorem dX5_become_75 : decode cX5_become 75 = .ok (.invokevirtual 68, 3) := by decide +kernel
theorem dX5_become_78 : decode cX5_become 78 = .ok (.iconst 0, 1) := by decide +kernel
theorem dX5_become_79 : decode cX5_become 79 = .ok (.istore 6, 2) := by decide +kernel
theorem dX5_become_81 : decode cX5_become 81 = .ok (.iload 6, 2) := by decide +kernel
theorem dX5_become_83 : decode cX5_become 83 = .ok (.aload_n 1, 1) := by decide +kernel
theorem dX5_become_84 : decode cX5_become 84 = .ok (.getfield 36, 3) := by decide +kernel
theorem dX5_become_87 : decode cX5_become 87 = .ok (.if_icmp .ge 49, 3) := by decide +kernel
theorem dX5_become_90 : decode cX5_become 90 = .ok (.aload_n 1, 1) := by decide +kernel
theorem dX5_become_91 : decode cX5_become 91 = .ok (.getfield 20, 3) := by decide +kernel
theorem dX5_become_94 : decode cX5_become 94 = .ok (.iload 6, 2) := by decide +kernel
theorem dX5_become_96 : decode cX5_become 96 = .ok (.invokevirtual 43, 3) := by decide +kernel
theorem dX5_become_99 : decode cX5_become 99 = .ok (.iload 5, 2) := by decide +kernel
theorem dX5_become_101 : decode cX5_become 101 = .ok (.invokestatic 72, 3) := by decide +kernel
theorem dX5_become_104 : decode cX5_become 104 = .ok (.istore 7, 2) := by decide +kernel
theorem dX5_become_106 : decode cX5_become 106 = .ok (.aload_n 0, 1) := by decide +kernel
theorem dX5_become_107 : decode cX5_become 107 = .ok (.aload_n 1, 1) := by decide +kernel
theorem dX5_become_108 : decode cX5_become 108 = .ok (.getfield 14, 3) := by decide +kernel
theorem dX5_become_111 : decode cX5_become 111 = .ok (.iload 6, 2) := by decide +kernel
theorem dX5_become_113 : decode cX5_become 113 = .ok (.invokevirtual 43, 3) := by decide +kernel
theorem dX5_become_116 : decode cX5_become 116 = .ok (.iload 7, 2) := by decide +kernel
theorem dX5_become_118 : decode cX5_become 118 = .ok (.aload_n 1, 1) := by decide +kernel
theorem dX5_become_119 : decode cX5_become 119 = .ok (.iload 6, 2) := by decide +kernel
theorem dX5_become_121 : decode cX5_become 121 = .ok (.invokevirtual 59, 3) := by decide +kernel
theorem dX5_become_124 : decode cX5_become 124 = .ok (.iload 7, 2) := by decide +kernel
theorem dX5_become_126 : decode cX5_become 126 = .ok (.isub, 1) := by decide +kernel
theorem dX5_become_127 : decode cX5_become 127 = .ok (.invokevirtual 68, 3) := by decide +kernel
theorem dX5_become_130 : decode cX5_become 130 = .ok (.iinc 6 1, 3) := by decide +kernel
theorem dX5_become_133 : decode cX5_become 133 = .ok (.goto (-52), 3) := by decide +kernel
theorem dX5_become_136 : decode cX5_become 136 = .ok (.return_, 1) := by decide +kernel
theorem dX5_becomeInherited_0 : decode cX5_becomeInherited 0 = .ok (.aload_n 0, 1) := by decide +kernel
theorem dX5_becomeInherited_1 : decode cX5_becomeInherited 1 = .ok (.invokevirtual 58, 3) := by decide +kernel
theorem dX5_becomeInherited_4 : decode cX5_becomeInherited 4 = .ok (.iconst 0, 1) := by decide +kernel
theorem dX5_becomeInherited_5 : decode cX5_becomeInherited 5 = .ok (.istore 4, 2) := by decide +kernel
theorem dX5_becomeInherited_7 : decode cX5_becomeInherited 7 = .ok (.iload 4, 2) := by decide +kernel
theorem dX5_becomeInherited_9 : decode cX5_becomeInherited 9 = .ok (.aload_n 1, 1) := by decide +kernel
theorem dX5_becomeInherited_10 : decode cX5_becomeInherited 10 = .ok (.getfield 36, 3) := by decide +kernel
theorem dX5_becomeInherited_13 : decode cX5_becomeInherited 13 = .ok (.if_icmp .ge 54, 3) := by decide +kernel
theorem dX5_becomeInherited_16 : decode cX5_becomeInherited 16 = .ok (.aload_n 1, 1) := by decide +kernel
theorem dX5_becomeInherited_17 : decode cX5_becomeInherited 17 = .ok (.getfield 14, 3) := by decide +kernel
theorem dX5_becomeInherited_20 : decode cX5_becomeInherited 20 = .ok (.iload 4, 2) := by decide +kernel
theorem dX5_becomeInherited_22 : decode cX5_becomeInherited 22 = .ok (.invokevirtual 43, 3) := by decide +kernel
theorem dX5_becomeInherited_25 : decode cX5_becomeInherited 25 = .ok (.istore 5, 2) := by decide +kernel
theorem dX5_becomeInherited_27 : decode cX5_becomeInherited 27 = .ok (.aload_n 0, 1) := by decide +kernel
theorem dX5_becomeInherited_28 : decode cX5_becomeInherited 28 = .ok (.iload 5, 2) := by decide +kernel
theorem dX5_becomeInherited_30 : decode cX5_becomeInherited 30 = .ok (.iload_n 2, 1) := by decide +kernel
theorem dX5_becomeInherited_31 : decode cX5_becomeInherited 31 = .ok (.if_icmp .ne 7, 3) := by decide +kernel
theorem dX5_becomeInherited_34 : decode cX5_becomeInherited 34 = .ok (.iload_n 3, 1) := by decide +kernel
theorem dX5_becomeInherited_35 : decode cX5_becomeInherited 35 = .ok (.goto 5, 3) := by decide +kernel
theorem dX5_becomeInherited_38 : decode cX5_becomeInherited 38 = .ok (.iload 5, 2) := by decide +kernel
theorem dX5_becomeInherited_40 : decode cX5_becomeInherited 40 = .ok (.aload_n 1, 1) := by decide +kernel
theorem dX5_becomeInherited_41 : decode cX5_becomeInherited 41 = .ok (.getfield 20, 3) := by decide +kernel
theorem dX5_becomeInherited_44 : decode cX5_becomeInherited 44 = .ok (.iload 4, 2) := by decide +kernel
theorem dX5_becomeInherited_46 : decode cX5_becomeInherited 46 = .ok (.invokevirtual 43, 3) := by decide +kernel
theorem dX5_becomeInherited_49 : decode cX5_becomeInherited 49 = .ok (.aload_n 1, 1) := by decide +kernel
theorem dX5_becomeInherited_50 : decode cX5_becomeInherited 50 = .ok (.getfield 23, 3) := by decide +kernel
theorem dX5_becomeInherited_53 : decode cX5_becomeInherited 53 = .ok (.iload 4, 2) := by decide +kernel
theorem dX5_becomeInherited_55 : decode cX5_becomeInherited 55 = .ok (.invokevirtual 43, 3) := by decide +kernel
theorem dX5_becomeInherited_58 : decode cX5_becomeInherited 58 = .ok (.invokevirtual 68, 3) := by decide +kernel
theorem dX5_becomeInherited_61 : decode cX5_becomeInherited 61 = .ok (.iinc 4 1, 3) := by decide +kernel
theorem dX5_becomeInherited_64 : decode cX5_becomeInherited 64 = .ok (.goto (-57), 3) := by decide +kernel
theorem dX5_becomeInherited_67 : decode cX5_becomeInherited 67 = .ok (.return_, 1) := by decide +kernel
theorem dX5_remove_0 : decode cX5_remove 0 = .ok (.aload_n 0, 1) := by decide +kernel
theorem dX5_remove_1 : decode cX5_remove 1 = .ok (.iload_n 1, 1) := by decide +kernel
theorem dX5_remove_2 : decode cX5_remove 2 = .ok (.invokevirtual 75, 3) := by decide +kernel
theorem dX5_remove_5 : decode cX5_remove 5 = .ok (.ifCond .ne 4, 3) := by decide +kernel
theorem dX5_remove_8 : decode cX5_remove 8 = .ok (.return_, 1) := by decide +kernel
theorem dX5_remove_9 : decode cX5_remove 9 = .ok (.aload_n 0, 1) := by decide +kernel
theorem dX5_remove_10 : decode cX5_remove 10 = .ok (.getfield 26, 3) := by decide +kernel
theorem dX5_remove_13 : decode cX5_remove 13 = .ok (.aload_n 0, 1) := by decide +kernel
theorem dX5_remove_14 : decode cX5_remove 14 = .ok (.getfield 14, 3) := by decide +kernel
theorem dX5_remove_17 : decode cX5_remove 17 = .ok (.iload_n 1, 1) := by decide +kernel
theorem dX5_remove_18 : decode cX5_remove 18 = .ok (.invokevirtual 43, 3) := by decide +kernel
theorem dX5_remove_21 : decode cX5_remove 21 = .ok (.iconst (-1), 1) := by decide +kernel
theorem dX5_remove_22 : decode cX5_remove 22 = .ok (.invokevirtual 51, 3) := by decide +kernel
theorem dX5_remove_25 : decode cX5_remove 25 = .ok (.aload_n 0, 1) := by decide +kernel
theorem dX5_remove_26 : decode cX5_remove 26 = .ok (.getfield 29, 3) := by decide +kernel
theorem dX5_remove_29 : decode cX5_remove 29 = .ok (.aload_n 0, 1) := by decide +kernel
theorem dX5_remove_30 : decode cX5_remove 30 = .ok (.getfield 14, 3) := by decide +kernel
theorem dX5_remove_33 : decode cX5_remove 33 = .ok (.iload_n 1, 1) := by decide +kernel
theorem dX5_remove_34 : decode cX5_remove 34 = .ok (.invokevirtual 43, 3) := by decide +kernel
theorem dX5_remove_37 : decode cX5_remove 37 = .ok (.aload_n 0, 1) := by decide +kernel
theorem dX5_remove_38 : decode cX5_remove 38 = .ok (.getfield 23, 3) := by decide +kernel
theorem dX5_remove_41 : decode cX5_remove 41 = .ok (.iload_n 1, 1) := by decide +kernel
theorem dX5_remove_42 : decode cX5_remove 42 = .ok (.invokevirtual 43, 3) := by decide +kernel
theorem dX5_remove_45 : decode cX5_remove 45 = .ok (.ineg, 1) := by decide +kernel
theorem dX5_remove_46 : decode cX5_remove 46 = .ok (.invokevirtual 51, 3) := by decide +kernel
theorem dX5_remove_49 : decode cX5_remove 49 = .ok (.aload_n 0, 1) := by decide +kernel
theorem dX5_remove_50 : decode cX5_remove 50 = .ok (.dup, 1) := by decide +kernel
theorem dX5_remove_51 : decode cX5_remove 51 = .ok (.getfield 36, 3) := by decide +kernel
theorem dX5_remove_54 : decode cX5_remove 54 = .ok (.iconst 1, 1) := by decide +kernel
theorem dX5_remove_55 : decode cX5_remove 55 = .ok (.isub, 1) := by decide +kernel
theorem dX5_remove_56 : decode cX5_remove 56 = .ok (.putfield 36, 3) := by decide +kernel
theorem dX5_remove_59 : decode cX5_remove 59 = .ok (.iload_n 1, 1) := by decide +kernel
theorem dX5_remove_60 : decode cX5_remove 60 = .ok (.istore_n 2, 1) := by decide +kernel
theorem dX5_remove_61 : decode cX5_remove 61 = .ok (.iload_n 2, 1) := by decide +kernel
theorem dX5_remove_62 : decode cX5_remove 62 = .ok (.aload_n 0, 1) := by decide +kernel
theorem dX5_remove_63 : decode cX5_remove 63 = .ok (.getfield 36, 3) := by decide +kernel
theorem dX5_remove_66 : decode cX5_remove 66 = .ok (.if_icmp .ge 63, 3) := by decide +kernel
theorem dX5_remove_69 : decode cX5_remove 69 = .ok (.aload_n 0, 1) := by decide +kernel
theorem dX5_remove_70 : decode cX5_remove 70 = .ok (.getfield 14, 3) := by decide +kernel
theorem dX5_remove_73 : decode cX5_remove 73 = .ok (.iload_n 2, 1) := by decide +kernel
theorem dX5_remove_74 : decode cX5_remove 74 = .ok (.aload_n 0, 1) := by decide +kernel
theorem dX5_remove_75 : decode cX5_remove 75 = .ok (.getfield 14, 3) := by decide +kernel
theorem dX5_remove_78 : decode cX5_remove 78 = .ok (.iload_n 2, 1) := by decide +kernel
theorem dX5_remove_79 : decode cX5_remove 79 = .ok (.iconst 1, 1) := by decide +kernel
theorem dX5_remove_80 : decode cX5_remove 80 = .ok (.iadd, 1) := by decide +kernel
theorem dX5_remove_81 : decode cX5_remove 81 = .ok (.invokevirtual 43, 3) := by decide +kernel
theorem dX5_remove_84 : decode cX5_remove 84 = .ok (.invokevirtual 55, 3) := by decide +kernel
theorem dX5_remove_87 : decode cX5_remove 87 = .ok (.aload_n 0, 1) := by decide +kernel
theorem dX5_remove_88 : decode cX5_remove 88 = .ok (.getfield 20, 3) := by decide +kernel
theorem dX5_remove_91 : decode cX5_remove 91 = .ok (.iload_n 2, 1) := by decide +kernel
theorem dX5_remove_92 : decode cX5_remove 92 = .ok (.aload_n 0, 1) := by decide +kernel
theorem dX5_remove_93 : decode cX5_remove 93 = .ok (.getfield 20, 3) := by decide +kernel
theorem dX5_remove_96 : decode cX5_remove 96 = .ok (.iload_n 2, 1) := by decide +kernel
theorem dX5_remove_97 : decode cX5_remove 97 = .ok (.iconst 1, 1) := by decide +kernel
theorem dX5_remove_98 : decode cX5_remove 98 = .ok (.iadd, 1) := by decide +kernel
theorem dX5_remove_99 : decode cX5_remove 99 = .ok (.invokevirtual 43, 3) := by decide +kernel
theorem dX5_remove_102 : decode cX5_remove 102 = .ok (.invokevirtual 55, 3) := by decide +kernel
theorem dX5_remove_105 : decode cX5_remove 105 = .ok (.aload_n 0, 1) := by decide +kernel
theorem dX5_remove_106 : decode cX5_remove 106 = .ok (.getfield 23, 3) := by decide +kernel
theorem dX5_remove_109 : decode cX5_remove 109 = .ok (.iload_n 2, 1) := by decide +kernel
theorem dX5_remove_110 : decode cX5_remove 110 = .ok (.aload_n 0, 1) := by decide +kernel
theorem dX5_remove_111 : decode cX5_remove 111 = .ok (.getfield 23, 3) := by decide +kernel
theorem dX5_remove_114 : decode cX5_remove 114 = .ok (.iload_n 2, 1) := by decide +kernel
theorem dX5_remove_115 : decode cX5_remove 115 = .ok (.iconst 1, 1) := by decide +kernel
theorem dX5_remove_116 : decode cX5_remove 116 = .ok (.iadd, 1) := by decide +kernel
theorem dX5_remove_117 : decode cX5_remove 117 = .ok (.invokevirtual 43, 3) := by decide +kernel
theorem dX5_remove_120 : decode cX5_remove 120 = .ok (.invokevirtual 55, 3) := by decide +kernel
theorem dX5_remove_123 : decode cX5_remove 123 = .ok (.iinc 2 1, 3) := by decide +kernel
theorem dX5_remove_126 : decode cX5_remove 126 = .ok (.goto (-65), 3) := by decide +kernel
theorem dX5_remove_129 : decode cX5_remove 129 = .ok (.return_, 1) := by decide +kernel
theorem dX5_holderAt_0 : decode cX5_holderAt 0 = .ok (.iconst 0, 1) := by decide +kernel
theorem dX5_holderAt_1 : decode cX5_holderAt 1 = .ok (.istore_n 2, 1) := by decide +kernel
theorem dX5_holderAt_2 : decode cX5_holderAt 2 = .ok (.iload_n 2, 1) := by decide +kernel
theorem dX5_holderAt_3 : decode cX5_holderAt 3 = .ok (.aload_n 0, 1) := by decide +kernel
theorem dX5_holderAt_4 : decode cX5_holderAt 4 = .ok (.getfield 36, 3) := by decide +kernel
theorem dX5_holderAt_7 : decode cX5_holderAt 7 = .ok (.if_icmp .ge 39, 3) := by decide +kernel
theorem dX5_holderAt_10 : decode cX5_holderAt 10 = .ok (.iload_n 1, 1) := by decide +kernel
theorem dX5_holderAt_11 : decode cX5_holderAt 11 = .ok (.aload_n 0, 1) := by decide +kernel
theorem dX5_holderAt_12 : decode cX5_holderAt 12 = .ok (.getfield 20, 3) := by decide +kernel
theorem dX5_holderAt_15 : decode cX5_holderAt 15 = .ok (.iload_n 2, 1) := by decide +kernel
theorem dX5_holderAt_16 : decode cX5_holderAt 16 = .ok (.invokevirtual 43, 3) := by decide +kernel
theorem dX5_holderAt_19 : decode cX5_holderAt 19 = .ok (.if_icmp .lt 21, 3) := by decide +kernel
theorem dX5_holderAt_22 : decode cX5_holderAt 22 = .ok (.iload_n 1, 1) := by decide +kernel
theorem dX5_holderAt_23 : decode cX5_holderAt 23 = .ok (.aload_n 0, 1) := by decide +kernel
theorem dX5_holderAt_24 : decode cX5_holderAt 24 = .ok (.iload_n 2, 1) := by decide +kernel
theorem dX5_holderAt_25 : decode cX5_holderAt 25 = .ok (.invokevirtual 59, 3) := by decide +kernel
theorem dX5_holderAt_28 : decode cX5_holderAt 28 = .ok (.if_icmp .ge 12, 3) := by decide +kernel
theorem dX5_holderAt_31 : decode cX5_holderAt 31 = .ok (.aload_n 0, 1) := by decide +kernel
theorem dX5_holderAt_32 : decode cX5_holderAt 32 = .ok (.getfield 14, 3) := by decide +kernel
theorem dX5_holderAt_35 : decode cX5_holderAt 35 = .ok (.iload_n 2, 1) := by decide +kernel
theorem dX5_holderAt_36 : decode cX5_holderAt 36 = .ok (.invokevirtual 43, 3) := by decide +kernel
theorem dX5_holderAt_39 : decode cX5_holderAt 39 = .ok (.ireturn, 1) := by decide +kernel
theorem dX5_holderAt_40 : decode cX5_holderAt 40 = .ok (.iinc 2 1, 3) := by decide +kernel
theorem dX5_holderAt_43 : decode cX5_holderAt 43 = .ok (.goto (-41), 3) := by decide +kernel
theorem dX5_holderAt_46 : decode cX5_holderAt 46 = .ok (.bipush (-6), 2) := by decide +kernel
theorem dX5_holderAt_48 : decode cX5_holderAt 48 = .ok (.ireturn, 1) := by decide +kernel
theorem dX5_longestOf_0 : decode cX5_longestOf 0 = .ok (.iconst 0, 1) := by decide +kernel
theorem dX5_longestOf_1 : decode cX5_longestOf 1 = .ok (.istore_n 2, 1) := by decide +kernel
theorem dX5_longestOf_2 : decode cX5_longestOf 2 = .ok (.iconst 0, 1) := by decide +kernel
theorem dX5_longestOf_3 : decode cX5_longestOf 3 = .ok (.istore_n 3, 1) := by decide +kernel
theorem dX5_longestOf_4 : decode cX5_longestOf 4 = .ok (.iload_n 3, 1) := by decide +kernel
theorem dX5_longestOf_5 : decode cX5_longestOf 5 = .ok (.aload_n 0, 1) := by decide +kernel
theorem dX5_longestOf_6 : decode cX5_longestOf 6 = .ok (.getfield 36, 3) := by decide +kernel
theorem dX5_longestOf_9 : decode cX5_longestOf 9 = .ok (.if_icmp .ge 34, 3) := by decide +kernel
theorem dX5_longestOf_12 : decode cX5_longestOf 12 = .ok (.aload_n 0, 1) := by decide +kernel
theorem dX5_longestOf_13 : decode cX5_longestOf 13 = .ok (.getfield 14, 3) := by decide +kernel
theorem dX5_longestOf_16 : decode cX5_longestOf 16 = .ok (.iload_n 3, 1) := by decide +kernel
theorem dX5_longestOf_17 : decode cX5_longestOf 17 = .ok (.invokevirtual 43, 3) := by decide +kernel
theorem dX5_longestOf_20 : decode cX5_longestOf 20 = .ok (.iload_n 1, 1) := by decide +kernel
theorem dX5_longestOf_21 : decode cX5_longestOf 21 = .ok (.if_icmp .ne 16, 3) := by decide +kernel
theorem dX5_longestOf_24 : decode cX5_longestOf 24 = .ok (.iload_n 2, 1) := by decide +kernel
theorem dX5_longestOf_25 : decode cX5_longestOf 25 = .ok (.aload_n 0, 1) := by decide +kernel
theorem dX5_longestOf_26 : decode cX5_longestOf 26 = .ok (.getfield 23, 3) := by decide +kernel
theorem dX5_longestOf_29 : decode cX5_longestOf 29 = .ok (.iload_n 3, 1) := by decide +kernel
theorem dX5_longestOf_30 : decode cX5_longestOf 30 = .ok (.invokevirtual 43, 3) := by decide +kernel
theorem dX5_longestOf_33 : decode cX5_longestOf 33 = .ok (.invokestatic 72, 3) := by decide +kernel
theorem dX5_longestOf_36 : decode cX5_longestOf 36 = .ok (.istore_n 2, 1) := by decide +kernel
theorem dX5_longestOf_37 : decode cX5_longestOf 37 = .ok (.iinc 3 1, 3) := by decide +kernel
theorem dX5_longestOf_40 : decode cX5_longestOf 40 = .ok (.goto (-36), 3) := by decide +kernel
theorem dX5_longestOf_43 : decode cX5_longestOf 43 = .ok (.iload_n 2, 1) := by decide +kernel
theorem dX5_longestOf_44 : decode cX5_longestOf 44 = .ok (.ireturn, 1) := by decide +kernel
theorem dX5_shortestOf_0 : decode cX5_shortestOf 0 = .ok (.bipush (-6), 2) := by decide +kernel
theorem dX5_shortestOf_2 : decode cX5_shortestOf 2 = .ok (.istore_n 2, 1) := by decide +kernel
theorem dX5_shortestOf_3 : decode cX5_shortestOf 3 = .ok (.iconst 0, 1) := by decide +kernel
theorem dX5_shortestOf_4 : decode cX5_shortestOf 4 = .ok (.istore_n 3, 1) := by decide +kernel
theorem dX5_shortestOf_5 : decode cX5_shortestOf 5 = .ok (.iload_n 3, 1) := by decide +kernel
theorem dX5_shortestOf_6 : decode cX5_shortestOf 6 = .ok (.aload_n 0, 1) := by decide +kernel
theorem dX5_shortestOf_7 : decode cX5_shortestOf 7 = .ok (.getfield 36, 3) := by decide +kernel
theorem dX5_shortestOf_10 : decode cX5_shortestOf 10 = .ok (.if_icmp .ge 48, 3) := by decide +kernel
theorem dX5_shortestOf_13 : decode cX5_shortestOf 13 = .ok (.aload_n 0, 1) := by decide +kernel
theorem dX5_shortestOf_14 : decode cX5_shortestOf 14 = .ok (.getfield 14, 3) := by decide +kernel
theorem dX5_shortestOf_17 : decode cX5_shortestOf 17 = .ok (.iload_n 3, 1) := by decide +kernel
theorem dX5_shortestOf_18 : decode cX5_shortestOf 18 = .ok (.invokevirtual 43, 3) := by decide +kernel
theorem dX5_shortestOf_21 : decode cX5_shortestOf 21 = .ok (.iload_n 1, 1) := by decide +kernel
theorem dX5_shortestOf_22 : decode cX5_shortestOf 22 = .ok (.if_icmp .ne 30, 3) := by decide +kernel
theorem dX5_shortestOf_25 : decode cX5_shortestOf 25 = .ok (.iload_n 2, 1) := by decide +kernel
theorem dX5_shortestOf_26 : decode cX5_shortestOf 26 = .ok (.bipush (-6), 2) := by decide +kernel
theorem dX5_shortestOf_28 : decode cX5_shortestOf 28 = .ok (.if_icmp .eq 22, 3) := by decide +kernel
theorem dX5_shortestOf_31 : decode cX5_shortestOf 31 = .ok (.aload_n 0, 1) := by decide +kernel
theorem dX5_shortestOf_32 : decode cX5_shortestOf 32 = .ok (.getfield 23, 3) := by decide +kernel
theorem dX5_shortestOf_35 : decode cX5_shortestOf 35 = .ok (.iload_n 3, 1) := by decide +kernel
theorem dX5_shortestOf_36 : decode cX5_shortestOf 36 = .ok (.invokevirtual 43, 3) := by decide +kernel
theorem dX5_shortestOf_39 : decode cX5_shortestOf 39 = .ok (.aload_n 0, 1) := by decide +kernel
theorem dX5_shortestOf_40 : decode cX5_shortestOf 40 = .ok (.getfield 23, 3) := by decide +kernel
theorem dX5_shortestOf_43 : decode cX5_shortestOf 43 = .ok (.iload_n 2, 1) := by decide +kernel
theorem dX5_shortestOf_44 : decode cX5_shortestOf 44 = .ok (.invokevirtual 43, 3) := by decide +kernel
theorem dX5_shortestOf_47 : decode cX5_shortestOf 47 = .ok (.if_icmp .gt 5, 3) := by decide +kernel
theorem dX5_shortestOf_50 : decode cX5_shortestOf 50 = .ok (.iload_n 3, 1) := by decide +kernel
theorem dX5_shortestOf_51 : decode cX5_shortestOf 51 = .ok (.istore_n 2, 1) := by decide +kernel
theorem dX5_shortestOf_52 : decode cX5_shortestOf 52 = .ok (.iinc 3 1, 3) := by decide +kernel
theorem dX5_shortestOf_55 : decode cX5_shortestOf 55 = .ok (.goto (-50), 3) := by decide +kernel
theorem dX5_shortestOf_58 : decode cX5_shortestOf 58 = .ok (.iload_n 2, 1) := by decide +kernel
theorem dX5_shortestOf_59 : decode cX5_shortestOf 59 = .ok (.ireturn, 1) := by decide +kernel
theorem dX5_hasShorter_0 : decode cX5_hasShorter 0 = .ok (.aload_n 0, 1) := by decide +kernel
theorem dX5_hasShorter_1 : decode cX5_hasShorter 1 = .ok (.iload_n 1, 1) := by decide +kernel
theorem dX5_hasShorter_2 : decode cX5_hasShorter 2 = .ok (.invokevirtual 79, 3) := by decide +kernel
theorem dX5_hasShorter_5 : decode cX5_hasShorter 5 = .ok (.istore_n 3, 1) := by decide +kernel
theorem dX5_hasShorter_6 : decode cX5_hasShorter 6 = .ok (.iload_n 3, 1) := by decide +kernel
theorem dX5_hasShorter_7 : decode cX5_hasShorter 7 = .ok (.bipush (-6), 2) := by decide +kernel
theorem dX5_hasShorter_9 : decode cX5_hasShorter 9 = .ok (.if_icmp .eq 19, 3) := by decide +kernel
theorem dX5_hasShorter_12 : decode cX5_hasShorter 12 = .ok (.aload_n 0, 1) := by decide +kernel
theorem dX5_hasShorter_13 : decode cX5_hasShorter 13 = .ok (.getfield 23, 3) := by decide +kernel
theorem dX5_hasShorter_16 : decode cX5_hasShorter 16 = .ok (.iload_n 3, 1) := by decide +kernel
theorem dX5_hasShorter_17 : decode cX5_hasShorter 17 = .ok (.invokevirtual 43, 3) := by decide +kernel
theorem dX5_hasShorter_20 : decode cX5_hasShorter 20 = .ok (.iload_n 2, 1) := by decide +kernel
theorem dX5_hasShorter_21 : decode cX5_hasShorter 21 = .ok (.if_icmp .ge 7, 3) := by decide +kernel
theorem dX5_hasShorter_24 : decode cX5_hasShorter 24 = .ok (.iconst 1, 1) := by decide +kernel
theorem dX5_hasShorter_25 : decode cX5_hasShorter 25 = .ok (.goto 4, 3) := by decide +kernel
theorem dX5_hasShorter_28 : decode cX5_hasShorter 28 = .ok (.iconst 0, 1) := by decide +kernel
theorem dX5_hasShorter_29 : decode cX5_hasShorter 29 = .ok (.ireturn, 1) := by decide +kernel
theorem dX5_overlap_0 : decode cX5_overlap 0 = .ok (.aload_n 0, 1) := by decide +kernel
theorem dX5_overlap_1 : decode cX5_overlap 1 = .ok (.getfield 20, 3) := by decide +kernel
theorem dX5_overlap_4 : decode cX5_overlap 4 = .ok (.iload_n 1, 1) := by decide +kernel
theorem dX5_overlap_5 : decode cX5_overlap 5 = .ok (.invokevirtual 43, 3) := by decide +kernel
theorem dX5_overlap_8 : decode cX5_overlap 8 = .ok (.istore 4, 2) := by decide +kernel
theorem dX5_overlap_10 : decode cX5_overlap 10 = .ok (.iload 4, 2) := by decide +kernel
theorem dX5_overlap_12 : decode cX5_overlap 12 = .ok (.aload_n 0, 1) := by decide +kernel
theorem dX5_overlap_13 : decode cX5_overlap 13 = .ok (.getfield 23, 3) := by decide +kernel
theorem dX5_overlap_16 : decode cX5_overlap 16 = .ok (.iload_n 1, 1) := by decide +kernel
theorem dX5_overlap_17 : decode cX5_overlap 17 = .ok (.invokevirtual 43, 3) := by decide +kernel
theorem dX5_overlap_20 : decode cX5_overlap 20 = .ok (.iadd, 1) := by decide +kernel
theorem dX5_overlap_21 : decode cX5_overlap 21 = .ok (.istore 5, 2) := by decide +kernel
theorem dX5_overlap_23 : decode cX5_overlap 23 = .ok (.iload 5, 2) := by decide +kernel
theorem dX5_overlap_25 : decode cX5_overlap 25 = .ok (.iload_n 2, 1) := by decide +kernel
theorem dX5_overlap_26 : decode cX5_overlap 26 = .ok (.iload_n 3, 1) := by decide +kernel
theorem dX5_overlap_27 : decode cX5_overlap 27 = .ok (.iadd, 1) := by decide +kernel
theorem dX5_overlap_28 : decode cX5_overlap 28 = .ok (.invokestatic 62, 3) := by decide +kernel
theorem dX5_overlap_31 : decode cX5_overlap 31 = .ok (.iload 4, 2) := by decide +kernel
theorem dX5_overlap_33 : decode cX5_overlap 33 = .ok (.iload_n 2, 1) := by decide +kernel
theorem dX5_overlap_34 : decode cX5_overlap 34 = .ok (.invokestatic 72, 3) := by decide +kernel
theorem dX5_overlap_37 : decode cX5_overlap 37 = .ok (.isub, 1) := by decide +kernel
theorem dX5_overlap_38 : decode cX5_overlap 38 = .ok (.iconst 0, 1) := by decide +kernel
theorem dX5_overlap_39 : decode cX5_overlap 39 = .ok (.invokestatic 72, 3) := by decide +kernel
theorem dX5_overlap_42 : decode cX5_overlap 42 = .ok (.ireturn, 1) := by decide +kernel
theorem dX5_metersWithin_0 : decode cX5_metersWithin 0 = .ok (.iconst 0, 1) := by decide +kernel
theorem dX5_metersWithin_1 : decode cX5_metersWithin 1 = .ok (.istore 4, 2) := by decide +kernel
theorem dX5_metersWithin_3 : decode cX5_metersWithin 3 = .ok (.iconst 0, 1) := by decide +kernel
theorem dX5_metersWithin_4 : decode cX5_metersWithin 4 = .ok (.istore 5, 2) := by decide +kernel
theorem dX5_metersWithin_6 : decode cX5_metersWithin 6 = .ok (.iload 5, 2) := by decide +kernel
theorem dX5_metersWithin_8 : decode cX5_metersWithin 8 = .ok (.aload_n 0, 1) := by decide +kernel
theorem dX5_metersWithin_9 : decode cX5_metersWithin 9 = .ok (.getfield 36, 3) := by decide +kernel
theorem dX5_metersWithin_12 : decode cX5_metersWithin 12 = .ok (.if_icmp .ge 35, 3) := by decide +kernel
theorem dX5_metersWithin_15 : decode cX5_metersWithin 15 = .ok (.aload_n 0, 1) := by decide +kernel
theorem dX5_metersWithin_16 : decode cX5_metersWithin 16 = .ok (.getfield 14, 3) := by decide +kernel
theorem dX5_metersWithin_19 : decode cX5_metersWithin 19 = .ok (.iload 5, 2) := by decide +kernel
theorem dX5_metersWithin_21 : decode cX5_metersWithin 21 = .ok (.invokevirtual 43, 3) := by decide +kernel
theorem dX5_metersWithin_24 : decode cX5_metersWithin 24 = .ok (.iload_n 1, 1) := by decide +kernel
theorem dX5_metersWithin_25 : decode cX5_metersWithin 25 = .ok (.if_icmp .ne 16, 3) := by decide +kernel
theorem dX5_metersWithin_28 : decode cX5_metersWithin 28 = .ok (.iload 4, 2) := by decide +kernel
theorem dX5_metersWithin_30 : decode cX5_metersWithin 30 = .ok (.aload_n 0, 1) := by decide +kernel
theorem dX5_metersWithin_31 : decode cX5_metersWithin 31 = .ok (.iload 5, 2) := by decide +kernel
theorem dX5_metersWithin_33 : decode cX5_metersWithin 33 = .ok (.iload_n 2, 1) := by decide +kernel
theorem dX5_metersWithin_34 : decode cX5_metersWithin 34 = .ok (.iload_n 3, 1) := by decide +kernel
theorem dX5_metersWithin_35 : decode cX5_metersWithin 35 = .ok (.invokevirtual 82, 3) := by decide +kernel
theorem dX5_metersWithin_38 : decode cX5_metersWithin 38 = .ok (.iadd, 1) := by decide +kernel
theorem dX5_metersWithin_39 : decode cX5_metersWithin 39 = .ok (.istore 4, 2) := by decide +kernel
theorem dX5_metersWithin_41 : decode cX5_metersWithin 41 = .ok (.iinc 5 1, 3) := by decide +kernel
theorem dX5_metersWithin_44 : decode cX5_metersWithin 44 = .ok (.goto (-38), 3) := by decide +kernel
theorem dX5_metersWithin_47 : decode cX5_metersWithin 47 = .ok (.iload 4, 2) := by decide +kernel
theorem dX5_metersWithin_49 : decode cX5_metersWithin 49 = .ok (.ireturn, 1) := by decide +kernel
theorem dX5_holdersWithin_0 : decode cX5_holdersWithin 0 = .ok (.iconst 0, 1) := by decide +kernel
theorem dX5_holdersWithin_1 : decode cX5_holdersWithin 1 = .ok (.istore_n 3, 1) := by decide +kernel
theorem dX5_holdersWithin_2 : decode cX5_holdersWithin 2 = .ok (.iconst 0, 1) := by decide +kernel
theorem dX5_holdersWithin_3 : decode cX5_holdersWithin 3 = .ok (.istore 4, 2) := by decide +kernel
theorem dX5_holdersWithin_5 : decode cX5_holdersWithin 5 = .ok (.iload 4, 2) := by decide +kernel
theorem dX5_holdersWithin_7 : decode cX5_holdersWithin 7 = .ok (.aload_n 0, 1) := by decide +kernel
theorem dX5_holdersWithin_8 : decode cX5_holdersWithin 8 = .ok (.getfield 36, 3) := by decide +kernel
theorem dX5_holdersWithin_11 : decode cX5_holdersWithin 11 = .ok (.if_icmp .ge 34, 3) := by decide +kernel
theorem dX5_holdersWithin_14 : decode cX5_holdersWithin 14 = .ok (.aload_n 0, 1) := by decide +kernel
theorem dX5_holdersWithin_15 : decode cX5_holdersWithin 15 = .ok (.iload 4, 2) := by decide +kernel
theorem dX5_holdersWithin_17 : decode cX5_holdersWithin 17 = .ok (.iload_n 1, 1) := by decide +kernel
theorem dX5_holdersWithin_18 : decode cX5_holdersWithin 18 = .ok (.iload_n 2, 1) := by decide +kernel
theorem dX5_holdersWithin_19 : decode cX5_holdersWithin 19 = .ok (.invokevirtual 82, 3) := by decide +kernel
theorem dX5_holdersWithin_22 : decode cX5_holdersWithin 22 = .ok (.ifCond .le 17, 3) := by decide +kernel
theorem dX5_holdersWithin_25 : decode cX5_holdersWithin 25 = .ok (.iload_n 3, 1) := by decide +kernel
theorem dX5_holdersWithin_26 : decode cX5_holdersWithin 26 = .ok (.iconst 1, 1) := by decide +kernel
theorem dX5_holdersWithin_27 : decode cX5_holdersWithin 27 = .ok (.aload_n 0, 1) := by decide +kernel
theorem dX5_holdersWithin_28 : decode cX5_holdersWithin 28 = .ok (.getfield 14, 3) := by decide +kernel
theorem dX5_holdersWithin_31 : decode cX5_holdersWithin 31 = .ok (.iload 4, 2) := by decide +kernel
theorem dX5_holdersWithin_33 : decode cX5_holdersWithin 33 = .ok (.invokevirtual 43, 3) := by decide +kernel
theorem dX5_holdersWithin_36 : decode cX5_holdersWithin 36 = .ok (.ishl, 1) := by decide +kernel
theorem dX5_holdersWithin_37 : decode cX5_holdersWithin 37 = .ok (.ior, 1) := by decide +kernel
theorem dX5_holdersWithin_38 : decode cX5_holdersWithin 38 = .ok (.istore_n 3, 1) := by decide +kernel
theorem dX5_holdersWithin_39 : decode cX5_holdersWithin 39 = .ok (.iinc 4 1, 3) := by decide +kernel
theorem dX5_holdersWithin_42 : decode cX5_holdersWithin 42 = .ok (.goto (-37), 3) := by decide +kernel
theorem dX5_holdersWithin_45 : decode cX5_holdersWithin 45 = .ok (.iload_n 3, 1) := by decide +kernel
theorem dX5_holdersWithin_46 : decode cX5_holdersWithin 46 = .ok (.invokestatic 86, 3) := by decide +kernel
theorem dX5_holdersWithin_49 : decode cX5_holdersWithin 49 = .ok (.ireturn, 1) := by decide +kernel
theorem dX5_quietestStart_0 : decode cX5_quietestStart 0 = .ok (.iconst 0, 1) := by decide +kernel
theorem dX5_quietestStart_1 : decode cX5_quietestStart 1 = .ok (.istore_n 2, 1) := by decide +kernel
theorem dX5_quietestStart_2 : decode cX5_quietestStart 2 = .ok (.aload_n 0, 1) := by decide +kernel
theorem dX5_quietestStart_3 : decode cX5_quietestStart 3 = .ok (.iconst 0, 1) := by decide +kernel
theorem dX5_quietestStart_4 : decode cX5_quietestStart 4 = .ok (.iload_n 1, 1) := by decide +kernel
theorem dX5_quietestStart_5 : decode cX5_quietestStart 5 = .ok (.invokevirtual 91, 3) := by decide +kernel
theorem dX5_quietestStart_8 : decode cX5_quietestStart 8 = .ok (.istore_n 3, 1) := by decide +kernel
theorem dX5_quietestStart_9 : decode cX5_quietestStart 9 = .ok (.iconst 0, 1) := by decide +kernel
theorem dX5_quietestStart_10 : decode cX5_quietestStart 10 = .ok (.istore 4, 2) := by decide +kernel
theorem dX5_quietestStart_12 : decode cX5_quietestStart 12 = .ok (.iload 4, 2) := by decide +kernel
theorem dX5_quietestStart_14 : decode cX5_quietestStart 14 = .ok (.aload_n 0, 1) := by decide +kernel
theorem dX5_quietestStart_15 : decode cX5_quietestStart 15 = .ok (.getfield 36, 3) := by decide +kernel
theorem dX5_quietestStart_18 : decode cX5_quietestStart 18 = .ok (.if_icmp .ge 48, 3) := by decide +kernel
theorem dX5_quietestStart_21 : decode cX5_quietestStart 21 = .ok (.aload_n 0, 1) := by decide +kernel
theorem dX5_quietestStart_22 : decode cX5_quietestStart 22 = .ok (.iload 4, 2) := by decide +kernel
theorem dX5_quietestStart_24 : decode cX5_quietestStart 24 = .ok (.invokevirtual 59, 3) := by decide +kernel
theorem dX5_quietestStart_27 : decode cX5_quietestStart 27 = .ok (.istore 5, 2) := by decide +kernel
theorem dX5_quietestStart_29 : decode cX5_quietestStart 29 = .ok (.iload 5, 2) := by decide +kernel
theorem dX5_quietestStart_31 : decode cX5_quietestStart 31 = .ok (.iload_n 1, 1) := by decide +kernel
theorem dX5_quietestStart_32 : decode cX5_quietestStart 32 = .ok (.iadd, 1) := by decide +kernel
theorem dX5_quietestStart_33 : decode cX5_quietestStart 33 = .ok (.sipush 10000, 3) := by decide +kernel
theorem dX5_quietestStart_36 : decode cX5_quietestStart 36 = .ok (.if_icmp .gt 24, 3) := by decide +kernel
theorem dX5_quietestStart_39 : decode cX5_quietestStart 39 = .ok (.aload_n 0, 1) := by decide +kernel
theorem dX5_quietestStart_40 : decode cX5_quietestStart 40 = .ok (.iload 5, 2) := by decide +kernel
theorem dX5_quietestStart_42 : decode cX5_quietestStart 42 = .ok (.iload_n 1, 1) := by decide +kernel
theorem dX5_quietestStart_43 : decode cX5_quietestStart 43 = .ok (.invokevirtual 91, 3) := by decide +kernel
theorem dX5_quietestStart_46 : decode cX5_quietestStart 46 = .ok (.istore 6, 2) := by decide +kernel
theorem dX5_quietestStart_48 : decode cX5_quietestStart 48 = .ok (.iload 6, 2) := by decide +kernel
theorem dX5_quietestStart_50 : decode cX5_quietestStart 50 = .ok (.iload_n 3, 1) := by decide +kernel
theorem dX5_quietestStart_51 : decode cX5_quietestStart 51 = .ok (.if_icmp .ge 9, 3) := by decide +kernel
theorem dX5_quietestStart_54 : decode cX5_quietestStart 54 = .ok (.iload 6, 2) := by decide +kernel
theorem dX5_quietestStart_56 : decode cX5_quietestStart 56 = .ok (.istore_n 3, 1) := by decide +kernel
theorem dX5_quietestStart_57 : decode cX5_quietestStart 57 = .ok (.iload 5, 2) := by decide +kernel
theorem dX5_quietestStart_59 : decode cX5_quietestStart 59 = .ok (.istore_n 2, 1) := by decide +kernel
theorem dX5_quietestStart_60 : decode cX5_quietestStart 60 = .ok (.iinc 4 1, 3) := by decide +kernel
theorem dX5_quietestStart_63 : decode cX5_quietestStart 63 = .ok (.goto (-51), 3) := by decide +kernel
theorem dX5_quietestStart_66 : decode cX5_quietestStart 66 = .ok (.iload_n 2, 1) := by decide +kernel
theorem dX5_quietestStart_67 : decode cX5_quietestStart 67 = .ok (.ireturn, 1) := by decide +kernel
theorem dX5_metersBetween_0 : decode cX5_metersBetween 0 = .ok (.bipush (-6), 2) := by decide +kernel
theorem dX5_metersBetween_2 : decode cX5_metersBetween 2 = .ok (.istore_n 2, 1) := by decide +kernel
theorem dX5_metersBetween_3 : decode cX5_metersBetween 3 = .ok (.iconst 0, 1) := by decide +kernel
theorem dX5_metersBetween_4 : decode cX5_metersBetween 4 = .ok (.istore_n 3, 1) := by decide +kernel
theorem dX5_metersBetween_5 : decode cX5_metersBetween 5 = .ok (.iconst 0, 1) := by decide +kernel
theorem dX5_metersBetween_6 : decode cX5_metersBetween 6 = .ok (.istore 4, 2) := by decide +kernel
theorem dX5_metersBetween_8 : decode cX5_metersBetween 8 = .ok (.iload 4, 2) := by decide +kernel
theorem dX5_metersBetween_10 : decode cX5_metersBetween 10 = .ok (.aload_n 0, 1) := by decide +kernel
theorem dX5_metersBetween_11 : decode cX5_metersBetween 11 = .ok (.getfield 36, 3) := by decide +kernel
theorem dX5_metersBetween_14 : decode cX5_metersBetween 14 = .ok (.if_icmp .ge 49, 3) := by decide +kernel
theorem dX5_metersBetween_17 : decode cX5_metersBetween 17 = .ok (.aload_n 0, 1) := by decide +kernel
theorem dX5_metersBetween_18 : decode cX5_metersBetween 18 = .ok (.getfield 14, 3) := by decide +kernel
theorem dX5_metersBetween_21 : decode cX5_metersBetween 21 = .ok (.iload 4, 2) := by decide +kernel
theorem dX5_metersBetween_23 : decode cX5_metersBetween 23 = .ok (.invokevirtual 43, 3) := by decide +kernel
theorem dX5_metersBetween_26 : decode cX5_metersBetween 26 = .ok (.iload_n 1, 1) := by decide +kernel
theorem dX5_metersBetween_27 : decode cX5_metersBetween 27 = .ok (.if_icmp .ne 30, 3) := by decide +kernel
theorem dX5_metersBetween_30 : decode cX5_metersBetween 30 = .ok (.iload_n 2, 1) := by decide +kernel
theorem dX5_metersBetween_31 : decode cX5_metersBetween 31 = .ok (.bipush (-6), 2) := by decide +kernel
theorem dX5_metersBetween_33 : decode cX5_metersBetween 33 = .ok (.if_icmp .ne 15, 3) := by decide +kernel
theorem dX5_metersBetween_36 : decode cX5_metersBetween 36 = .ok (.aload_n 0, 1) := by decide +kernel
theorem dX5_metersBetween_37 : decode cX5_metersBetween 37 = .ok (.getfield 20, 3) := by decide +kernel
theorem dX5_metersBetween_40 : decode cX5_metersBetween 40 = .ok (.iload 4, 2) := by decide +kernel
theorem dX5_metersBetween_42 : decode cX5_metersBetween 42 = .ok (.invokevirtual 43, 3) := by decide +kernel
theorem dX5_metersBetween_45 : decode cX5_metersBetween 45 = .ok (.goto 4, 3) := by decide +kernel
theorem dX5_metersBetween_48 : decode cX5_metersBetween 48 = .ok (.iload_n 2, 1) := by decide +kernel
theorem dX5_metersBetween_49 : decode cX5_metersBetween 49 = .ok (.istore_n 2, 1) := by decide +kernel
theorem dX5_metersBetween_50 : decode cX5_metersBetween 50 = .ok (.aload_n 0, 1) := by decide +kernel
theorem dX5_metersBetween_51 : decode cX5_metersBetween 51 = .ok (.iload 4, 2) := by decide +kernel
theorem dX5_metersBetween_53 : decode cX5_metersBetween 53 = .ok (.invokevirtual 59, 3) := by decide +kernel
theorem dX5_metersBetween_56 : decode cX5_metersBetween 56 = .ok (.istore_n 3, 1) := by decide +kernel
theorem dX5_metersBetween_57 : decode cX5_metersBetween 57 = .ok (.iinc 4 1, 3) := by decide +kernel
theorem dX5_metersBetween_60 : decode cX5_metersBetween 60 = .ok (.goto (-52), 3) := by decide +kernel
theorem dX5_metersBetween_63 : decode cX5_metersBetween 63 = .ok (.iload_n 2, 1) := by decide +kernel
theorem dX5_metersBetween_64 : decode cX5_metersBetween 64 = .ok (.bipush (-6), 2) := by decide +kernel
theorem dX5_metersBetween_66 : decode cX5_metersBetween 66 = .ok (.if_icmp .ne 7, 3) := by decide +kernel
theorem dX5_metersBetween_69 : decode cX5_metersBetween 69 = .ok (.iconst 0, 1) := by decide +kernel
theorem dX5_metersBetween_70 : decode cX5_metersBetween 70 = .ok (.goto 15, 3) := by decide +kernel
theorem dX5_metersBetween_73 : decode cX5_metersBetween 73 = .ok (.iload_n 3, 1) := by decide +kernel
theorem dX5_metersBetween_74 : decode cX5_metersBetween 74 = .ok (.iload_n 2, 1) := by decide +kernel
theorem dX5_metersBetween_75 : decode cX5_metersBetween 75 = .ok (.isub, 1) := by decide +kernel
theorem dX5_metersBetween_76 : decode cX5_metersBetween 76 = .ok (.aload_n 0, 1) := by decide +kernel
theorem dX5_metersBetween_77 : decode cX5_metersBetween 77 = .ok (.getfield 29, 3) := by decide +kernel
theorem dX5_metersBetween_80 : decode cX5_metersBetween 80 = .ok (.iload_n 1, 1) := by decide +kernel
theorem dX5_metersBetween_81 : decode cX5_metersBetween 81 = .ok (.invokevirtual 43, 3) := by decide +kernel
theorem dX5_metersBetween_84 : decode cX5_metersBetween 84 = .ok (.isub, 1) := by decide +kernel
theorem dX5_metersBetween_85 : decode cX5_metersBetween 85 = .ok (.ireturn, 1) := by decide +kernel
theorem dX5_startOfGap_0 : decode cX5_startOfGap 0 = .ok (.iload_n 1, 1) := by decide +kernel
theorem dX5_startOfGap_1 : decode cX5_startOfGap 1 = .ok (.ifCond .le 27, 3) := by decide +kernel
theorem dX5_startOfGap_4 : decode cX5_startOfGap 4 = .ok (.aload_n 0, 1) := by decide +kernel
theorem dX5_startOfGap_5 : decode cX5_startOfGap 5 = .ok (.getfield 20, 3) := by decide +kernel
theorem dX5_startOfGap_8 : decode cX5_startOfGap 8 = .ok (.iload_n 1, 1) := by decide +kernel
theorem dX5_startOfGap_9 : decode cX5_startOfGap 9 = .ok (.iconst 1, 1) := by decide +kernel
theorem dX5_startOfGap_10 : decode cX5_startOfGap 10 = .ok (.isub, 1) := by decide +kernel
theorem dX5_startOfGap_11 : decode cX5_startOfGap 11 = .ok (.invokevirtual 43, 3) := by decide +kernel
theorem dX5_startOfGap_14 : decode cX5_startOfGap 14 = .ok (.aload_n 0, 1) := by decide +kernel
theorem dX5_startOfGap_15 : decode cX5_startOfGap 15 = .ok (.getfield 23, 3) := by decide +kernel
theorem dX5_startOfGap_18 : decode cX5_startOfGap 18 = .ok (.iload_n 1, 1) := by decide +kernel
theorem dX5_startOfGap_19 : decode cX5_startOfGap 19 = .ok (.iconst 1, 1) := by decide +kernel
theorem dX5_startOfGap_20 : decode cX5_startOfGap 20 = .ok (.isub, 1) := by decide +kernel
theorem dX5_startOfGap_21 : decode cX5_startOfGap 21 = .ok (.invokevirtual 43, 3) := by decide +kernel
theorem dX5_startOfGap_24 : decode cX5_startOfGap 24 = .ok (.iadd, 1) := by decide +kernel
theorem dX5_startOfGap_25 : decode cX5_startOfGap 25 = .ok (.goto 4, 3) := by decide +kernel
theorem dX5_startOfGap_28 : decode cX5_startOfGap 28 = .ok (.iconst 0, 1) := by decide +kernel
theorem dX5_startOfGap_29 : decode cX5_startOfGap 29 = .ok (.ireturn, 1) := by decide +kernel
theorem dX5_lengthOfGap_0 : decode cX5_lengthOfGap 0 = .ok (.iload_n 1, 1) := by decide +kernel
theorem dX5_lengthOfGap_1 : decode cX5_lengthOfGap 1 = .ok (.aload_n 0, 1) := by decide +kernel
theorem dX5_lengthOfGap_2 : decode cX5_lengthOfGap 2 = .ok (.getfield 36, 3) := by decide +kernel
theorem dX5_lengthOfGap_5 : decode cX5_lengthOfGap 5 = .ok (.if_icmp .ge 14, 3) := by decide +kernel
theorem dX5_lengthOfGap_8 : decode cX5_lengthOfGap 8 = .ok (.aload_n 0, 1) := by decide +kernel
theorem dX5_lengthOfGap_9 : decode cX5_lengthOfGap 9 = .ok (.getfield 20, 3) := by decide +kernel
theorem dX5_lengthOfGap_12 : decode cX5_lengthOfGap 12 = .ok (.iload_n 1, 1) := by decide +kernel
theorem dX5_lengthOfGap_13 : decode cX5_lengthOfGap 13 = .ok (.invokevirtual 43, 3) := by decide +kernel
theorem dX5_lengthOfGap_16 : decode cX5_lengthOfGap 16 = .ok (.goto 6, 3) := by decide +kernel
theorem dX5_lengthOfGap_19 : decode cX5_lengthOfGap 19 = .ok (.sipush 10000, 3) := by decide +kernel
theorem dX5_lengthOfGap_22 : decode cX5_lengthOfGap 22 = .ok (.aload_n 0, 1) := by decide +kernel
theorem dX5_lengthOfGap_23 : decode cX5_lengthOfGap 23 = .ok (.iload_n 1, 1) := by decide +kernel
theorem dX5_lengthOfGap_24 : decode cX5_lengthOfGap 24 = .ok (.invokevirtual 94, 3) := by decide +kernel
theorem dX5_lengthOfGap_27 : decode cX5_lengthOfGap 27 = .ok (.isub, 1) := by decide +kernel
theorem dX5_lengthOfGap_28 : decode cX5_lengthOfGap 28 = .ok (.ireturn, 1) := by decide +kernel
theorem dX5_holes_0 : decode cX5_holes 0 = .ok (.iconst 0, 1) := by decide +kernel
theorem dX5_holes_1 : decode cX5_holes 1 = .ok (.istore_n 1, 1) := by decide +kernel
theorem dX5_holes_2 : decode cX5_holes 2 = .ok (.iconst 0, 1) := by decide +kernel
theorem dX5_holes_3 : decode cX5_holes 3 = .ok (.istore_n 2, 1) := by decide +kernel
theorem dX5_holes_4 : decode cX5_holes 4 = .ok (.iload_n 2, 1) := by decide +kernel
theorem dX5_holes_5 : decode cX5_holes 5 = .ok (.aload_n 0, 1) := by decide +kernel
theorem dX5_holes_6 : decode cX5_holes 6 = .ok (.getfield 36, 3) := by decide +kernel
theorem dX5_holes_9 : decode cX5_holes 9 = .ok (.if_icmp .gt 20, 3) := by decide +kernel
theorem dX5_holes_12 : decode cX5_holes 12 = .ok (.aload_n 0, 1) := by decide +kernel
theorem dX5_holes_13 : decode cX5_holes 13 = .ok (.iload_n 2, 1) := by decide +kernel
theorem dX5_holes_14 : decode cX5_holes 14 = .ok (.invokevirtual 97, 3) := by decide +kernel
theorem dX5_holes_17 : decode cX5_holes 17 = .ok (.ifCond .le 6, 3) := by decide +kernel
theorem dX5_holes_20 : decode cX5_holes 20 = .ok (.iinc 1 1, 3) := by decide +kernel
theorem dX5_holes_23 : decode cX5_holes 23 = .ok (.iinc 2 1, 3) := by decide +kernel
theorem dX5_holes_26 : decode cX5_holes 26 = .ok (.goto (-22), 3) := by decide +kernel
theorem dX5_holes_29 : decode cX5_holes 29 = .ok (.iload_n 1, 1) := by decide +kernel
theorem dX5_holes_30 : decode cX5_holes 30 = .ok (.ireturn, 1) := by decide +kernel
theorem dX5_longestHole_0 : decode cX5_longestHole 0 = .ok (.iconst 0, 1) := by decide +kernel
theorem dX5_longestHole_1 : decode cX5_longestHole 1 = .ok (.istore_n 1, 1) := by decide +kernel
theorem dX5_longestHole_2 : decode cX5_longestHole 2 = .ok (.iconst 0, 1) := by decide +kernel
theorem dX5_longestHole_3 : decode cX5_longestHole 3 = .ok (.istore_n 2, 1) := by decide +kernel
theorem dX5_longestHole_4 : decode cX5_longestHole 4 = .ok (.iload_n 2, 1) := by decide +kernel
theorem dX5_longestHole_5 : decode cX5_longestHole 5 = .ok (.aload_n 0, 1) := by decide +kernel
theorem dX5_longestHole_6 : decode cX5_longestHole 6 = .ok (.getfield 36, 3) := by decide +kernel
theorem dX5_longestHole_9 : decode cX5_longestHole 9 = .ok (.if_icmp .gt 19, 3) := by decide +kernel
theorem dX5_longestHole_12 : decode cX5_longestHole 12 = .ok (.iload_n 1, 1) := by decide +kernel
theorem dX5_longestHole_13 : decode cX5_longestHole 13 = .ok (.aload_n 0, 1) := by decide +kernel
theorem dX5_longestHole_14 : decode cX5_longestHole 14 = .ok (.iload_n 2, 1) := by decide +kernel
theorem dX5_longestHole_15 : decode cX5_longestHole 15 = .ok (.invokevirtual 97, 3) := by decide +kernel
theorem dX5_longestHole_18 : decode cX5_longestHole 18 = .ok (.invokestatic 72, 3) := by decide +kernel
theorem dX5_longestHole_21 : decode cX5_longestHole 21 = .ok (.istore_n 1, 1) := by decide +kernel
theorem dX5_longestHole_22 : decode cX5_longestHole 22 = .ok (.iinc 2 1, 3) := by decide +kernel
theorem dX5_longestHole_25 : decode cX5_longestHole 25 = .ok (.goto (-21), 3) := by decide +kernel
theorem dX5_longestHole_28 : decode cX5_longestHole 28 = .ok (.iload_n 1, 1) := by decide +kernel
theorem dX5_longestHole_29 : decode cX5_longestHole 29 = .ok (.ireturn, 1) := by decide +kernel
theorem dX5_gapFor_0 : decode cX5_gapFor 0 = .ok (.bipush (-6), 2) := by decide +kernel
theorem dX5_gapFor_2 : decode cX5_gapFor 2 = .ok (.istore_n 3, 1) := by decide +kernel
theorem dX5_gapFor_3 : decode cX5_gapFor 3 = .ok (.iconst 0, 1) := by decide +kernel
theorem dX5_gapFor_4 : decode cX5_gapFor 4 = .ok (.istore 4, 2) := by decide +kernel
theorem dX5_gapFor_6 : decode cX5_gapFor 6 = .ok (.iconst 0, 1) := by decide +kernel
theorem dX5_gapFor_7 : decode cX5_gapFor 7 = .ok (.istore 5, 2) := by decide +kernel
theorem dX5_gapFor_9 : decode cX5_gapFor 9 = .ok (.iload 5, 2) := by decide +kernel
theorem dX5_gapFor_11 : decode cX5_gapFor 11 = .ok (.aload_n 0, 1) := by decide +kernel
theorem dX5_gapFor_12 : decode cX5_gapFor 12 = .ok (.getfield 36, 3) := by decide +kernel
theorem dX5_gapFor_15 : decode cX5_gapFor 15 = .ok (.if_icmp .gt 47, 3) := by decide +kernel
theorem dX5_gapFor_18 : decode cX5_gapFor 18 = .ok (.aload_n 0, 1) := by decide +kernel
theorem dX5_gapFor_19 : decode cX5_gapFor 19 = .ok (.iload 5, 2) := by decide +kernel
theorem dX5_gapFor_21 : decode cX5_gapFor 21 = .ok (.invokevirtual 97, 3) := by decide +kernel
theorem dX5_gapFor_24 : decode cX5_gapFor 24 = .ok (.istore 6, 2) := by decide +kernel
theorem dX5_gapFor_26 : decode cX5_gapFor 26 = .ok (.iload 6, 2) := by decide +kernel
theorem dX5_gapFor_28 : decode cX5_gapFor 28 = .ok (.iload_n 1, 1) := by decide +kernel
theorem dX5_gapFor_29 : decode cX5_gapFor 29 = .ok (.if_icmp .lt 27, 3) := by decide +kernel
theorem dX5_gapFor_32 : decode cX5_gapFor 32 = .ok (.iload_n 3, 1) := by decide +kernel
theorem dX5_gapFor_33 : decode cX5_gapFor 33 = .ok (.bipush (-6), 2) := by decide +kernel
theorem dX5_gapFor_35 : decode cX5_gapFor 35 = .ok (.if_icmp .eq 14, 3) := by decide +kernel
theorem dX5_gapFor_38 : decode cX5_gapFor 38 = .ok (.iload 6, 2) := by decide +kernel
theorem dX5_gapFor_40 : decode cX5_gapFor 40 = .ok (.iload 4, 2) := by decide +kernel
theorem dX5_gapFor_42 : decode cX5_gapFor 42 = .ok (.iload_n 2, 1) := by decide +kernel
theorem dX5_gapFor_43 : decode cX5_gapFor 43 = .ok (.invokestatic 100, 3) := by decide +kernel
theorem dX5_gapFor_46 : decode cX5_gapFor 46 = .ok (.ifCond .eq 10, 3) := by decide +kernel
theorem dX5_gapFor_49 : decode cX5_gapFor 49 = .ok (.iload 5, 2) := by decide +kernel
theorem dX5_gapFor_51 : decode cX5_gapFor 51 = .ok (.istore_n 3, 1) := by decide +kernel
theorem dX5_gapFor_52 : decode cX5_gapFor 52 = .ok (.iload 6, 2) := by decide +kernel
theorem dX5_gapFor_54 : decode cX5_gapFor 54 = .ok (.istore 4, 2) := by decide +kernel
theorem dX5_gapFor_56 : decode cX5_gapFor 56 = .ok (.iinc 5 1, 3) := by decide +kernel
theorem dX5_gapFor_59 : decode cX5_gapFor 59 = .ok (.goto (-50), 3) := by decide +kernel
theorem dX5_gapFor_62 : decode cX5_gapFor 62 = .ok (.iload_n 3, 1) := by decide +kernel
theorem dX5_gapFor_63 : decode cX5_gapFor 63 = .ok (.ireturn, 1) := by decide +kernel
theorem dX5_isBetter_0 : decode cX5_isBetter 0 = .ok (.iload_n 2, 1) := by decide +kernel
theorem dX5_isBetter_1 : decode cX5_isBetter 1 = .ok (.iconst 1, 1) := by decide +kernel
theorem dX5_isBetter_2 : decode cX5_isBetter 2 = .ok (.if_icmp .ne 8, 3) := by decide +kernel
theorem dX5_isBetter_5 : decode cX5_isBetter 5 = .ok (.iload_n 0, 1) := by decide +kernel
theorem dX5_isBetter_6 : decode cX5_isBetter 6 = .ok (.iload_n 1, 1) := by decide +kernel
theorem dX5_isBetter_7 : decode cX5_isBetter 7 = .ok (.if_icmp .lt 13, 3) := by decide +kernel
theorem dX5_isBetter_10 : decode cX5_isBetter 10 = .ok (.iload_n 2, 1) := by decide +kernel
theorem dX5_isBetter_11 : decode cX5_isBetter 11 = .ok (.iconst 2, 1) := by decide +kernel
theorem dX5_isBetter_12 : decode cX5_isBetter 12 = .ok (.if_icmp .ne 12, 3) := by decide +kernel
theorem dX5_isBetter_15 : decode cX5_isBetter 15 = .ok (.iload_n 0, 1) := by decide +kernel
theorem dX5_isBetter_16 : decode cX5_isBetter 16 = .ok (.iload_n 1, 1) := by decide +kernel
theorem dX5_isBetter_17 : decode cX5_isBetter 17 = .ok (.if_icmp .le 7, 3) := by decide +kernel
theorem dX5_isBetter_20 : decode cX5_isBetter 20 = .ok (.iconst 1, 1) := by decide +kernel
theorem dX5_isBetter_21 : decode cX5_isBetter 21 = .ok (.goto 4, 3) := by decide +kernel
theorem dX5_isBetter_24 : decode cX5_isBetter 24 = .ok (.iconst 0, 1) := by decide +kernel
theorem dX5_isBetter_25 : decode cX5_isBetter 25 = .ok (.ireturn, 1) := by decide +kernel
theorem dX5_bestExchange_0 : decode cX5_bestExchange 0 = .ok (.bipush (-6), 2) := by decide +kernel
theorem dX5_bestExchange_2 : decode cX5_bestExchange 2 = .ok (.istore_n 2, 1) := by decide +kernel
theorem dX5_bestExchange_3 : decode cX5_bestExchange 3 = .ok (.bipush (-6), 2) := by decide +kernel
theorem dX5_bestExchange_5 : decode cX5_bestExchange 5 = .ok (.istore_n 3, 1) := by decide +kernel
theorem dX5_bestExchange_6 : decode cX5_bestExchange 6 = .ok (.iconst 0, 1) := by decide +kernel
theorem dX5_bestExchange_7 : decode cX5_bestExchange 7 = .ok (.istore 4, 2) := by decide +kernel
theorem dX5_bestExchange_9 : decode cX5_bestExchange 9 = .ok (.iconst 0, 1) := by decide +kernel
theorem dX5_bestExchange_10 : decode cX5_bestExchange 10 = .ok (.istore 5, 2) := by decide +kernel
theorem dX5_bestExchange_12 : decode cX5_bestExchange 12 = .ok (.iload 5, 2) := by decide +kernel
theorem dX5_bestExchange_14 : decode cX5_bestExchange 14 = .ok (.aload_n 0, 1) := by decide +kernel
theorem dX5_bestExchange_15 : decode cX5_bestExchange 15 = .ok (.getfield 36, 3) := by decide +kernel
theorem dX5_bestExchange_18 : decode cX5_bestExchange 18 = .ok (.if_icmp .ge 82, 3) := by decide +kernel
theorem dX5_bestExchange_21 : decode cX5_bestExchange 21 = .ok (.iload 5, 2) := by decide +kernel
theorem dX5_bestExchange_23 : decode cX5_bestExchange 23 = .ok (.iconst 1, 1) := by decide +kernel
theorem dX5_bestExchange_24 : decode cX5_bestExchange 24 = .ok (.iadd, 1) := by decide +kernel
theorem dX5_bestExchange_25 : decode cX5_bestExchange 25 = .ok (.istore 6, 2) := by decide +kernel
theorem dX5_bestExchange_27 : decode cX5_bestExchange 27 = .ok (.iload 6, 2) := by decide +kernel
theorem dX5_bestExchange_29 : decode cX5_bestExchange 29 = .ok (.aload_n 0, 1) := by decide +kernel
theorem dX5_bestExchange_30 : decode cX5_bestExchange 30 = .ok (.getfield 36, 3) := by decide +kernel
theorem dX5_bestExchange_33 : decode cX5_bestExchange 33 = .ok (.if_icmp .ge 61, 3) := by decide +kernel
theorem dX5_bestExchange_36 : decode cX5_bestExchange 36 = .ok (.aload_n 0, 1) := by decide +kernel
theorem dX5_bestExchange_37 : decode cX5_bestExchange 37 = .ok (.getfield 23, 3) := by decide +kernel
theorem dX5_bestExchange_40 : decode cX5_bestExchange 40 = .ok (.iload 5, 2) := by decide +kernel
theorem dX5_bestExchange_42 : decode cX5_bestExchange 42 = .ok (.invokevirtual 43, 3) := by decide +kernel
theorem dX5_bestExchange_45 : decode cX5_bestExchange 45 = .ok (.aload_n 0, 1) := by decide +kernel
theorem dX5_bestExchange_46 : decode cX5_bestExchange 46 = .ok (.getfield 23, 3) := by decide +kernel
theorem dX5_bestExchange_49 : decode cX5_bestExchange 49 = .ok (.iload 6, 2) := by decide +kernel
theorem dX5_bestExchange_51 : decode cX5_bestExchange 51 = .ok (.invokevirtual 43, 3) := by decide +kernel
theorem dX5_bestExchange_54 : decode cX5_bestExchange 54 = .ok (.if_icmp .ne 14, 3) := by decide +kernel
theorem dX5_bestExchange_57 : decode cX5_bestExchange 57 = .ok (.aload_n 0, 1) := by decide +kernel
theorem dX5_bestExchange_58 : decode cX5_bestExchange 58 = .ok (.iload 5, 2) := by decide +kernel
theorem dX5_bestExchange_60 : decode cX5_bestExchange 60 = .ok (.iload 6, 2) := by decide +kernel
theorem dX5_bestExchange_62 : decode cX5_bestExchange 62 = .ok (.invokevirtual 104, 3) := by decide +kernel
theorem dX5_bestExchange_65 : decode cX5_bestExchange 65 = .ok (.goto 4, 3) := by decide +kernel
theorem dX5_bestExchange_68 : decode cX5_bestExchange 68 = .ok (.iconst 0, 1) := by decide +kernel
theorem dX5_bestExchange_69 : decode cX5_bestExchange 69 = .ok (.istore 7, 2) := by decide +kernel
theorem dX5_bestExchange_71 : decode cX5_bestExchange 71 = .ok (.iload 7, 2) := by decide +kernel
theorem dX5_bestExchange_73 : decode cX5_bestExchange 73 = .ok (.iload 4, 2) := by decide +kernel
theorem dX5_bestExchange_75 : decode cX5_bestExchange 75 = .ok (.if_icmp .le 13, 3) := by decide +kernel
theorem dX5_bestExchange_78 : decode cX5_bestExchange 78 = .ok (.iload 7, 2) := by decide +kernel
theorem dX5_bestExchange_80 : decode cX5_bestExchange 80 = .ok (.istore 4, 2) := by decide +kernel
theorem dX5_bestExchange_82 : decode cX5_bestExchange 82 = .ok (.iload 5, 2) := by decide +kernel
theorem dX5_bestExchange_84 : decode cX5_bestExchange 84 = .ok (.istore_n 2, 1) := by decide +kernel
theorem dX5_bestExchange_85 : decode cX5_bestExchange 85 = .ok (.iload 6, 2) := by decide +kernel
theorem dX5_bestExchange_87 : decode cX5_bestExchange 87 = .ok (.istore_n 3, 1) := by decide +kernel
theorem dX5_bestExchange_88 : decode cX5_bestExchange 88 = .ok (.iinc 6 1, 3) := by decide +kernel
theorem dX5_bestExchange_91 : decode cX5_bestExchange 91 = .ok (.goto (-64), 3) := by decide +kernel
theorem dX5_bestExchange_94 : decode cX5_bestExchange 94 = .ok (.iinc 5 1, 3) := by decide +kernel
theorem dX5_bestExchange_97 : decode cX5_bestExchange 97 = .ok (.goto (-85), 3) := by decide +kernel
theorem dX5_bestExchange_100 : decode cX5_bestExchange 100 = .ok (.iload_n 1, 1) := by decide +kernel
theorem dX5_bestExchange_101 : decode cX5_bestExchange 101 = .ok (.ifCond .eq 9, 3) := by decide +kernel
theorem dX5_bestExchange_104 : decode cX5_bestExchange 104 = .ok (.iload_n 2, 1) := by decide +kernel
theorem dX5_bestExchange_105 : decode cX5_bestExchange 105 = .ok (.bipush (-6), 2) := by decide +kernel
theorem dX5_bestExchange_107 : decode cX5_bestExchange 107 = .ok (.if_icmp .ne 5, 3) := by decide +kernel
theorem dX5_bestExchange_110 : decode cX5_bestExchange 110 = .ok (.iload_n 2, 1) := by decide +kernel
theorem dX5_bestExchange_111 : decode cX5_bestExchange 111 = .ok (.ireturn, 1) := by decide +kernel
theorem dX5_bestExchange_112 : decode cX5_bestExchange 112 = .ok (.iload_n 1, 1) := by decide +kernel
theorem dX5_bestExchange_113 : decode cX5_bestExchange 113 = .ok (.iconst 1, 1) := by decide +kernel
theorem dX5_bestExchange_114 : decode cX5_bestExchange 114 = .ok (.if_icmp .ne 7, 3) := by decide +kernel
theorem dX5_bestExchange_117 : decode cX5_bestExchange 117 = .ok (.iload_n 3, 1) := by decide +kernel
theorem dX5_bestExchange_118 : decode cX5_bestExchange 118 = .ok (.goto 10, 3) := by decide +kernel
theorem dX5_bestExchange_121 : decode cX5_bestExchange 121 = .ok (.aload_n 0, 1) := by decide +kernel
theorem dX5_bestExchange_122 : decode cX5_bestExchange 122 = .ok (.getfield 36, 3) := by decide +kernel
theorem dX5_bestExchange_125 : decode cX5_bestExchange 125 = .ok (.iload 4, 2) := by decide +kernel
theorem dX5_bestExchange_127 : decode cX5_bestExchange 127 = .ok (.isub, 1) := by decide +kernel
theorem dX5_bestExchange_128 : decode cX5_bestExchange 128 = .ok (.ireturn, 1) := by decide +kernel
theorem dX5_joinsOfExchange_0 : decode cX5_joinsOfExchange 0 = .ok (.aload_n 0, 1) := by decide +kernel
theorem dX5_joinsOfExchange_1 : decode cX5_joinsOfExchange 1 = .ok (.getfield 14, 3) := by decide +kernel
theorem dX5_joinsOfExchange_4 : decode cX5_joinsOfExchange 4 = .ok (.iload_n 1, 1) := by decide +kernel
theorem dX5_joinsOfExchange_5 : decode cX5_joinsOfExchange 5 = .ok (.invokevirtual 43, 3) := by decide +kernel
theorem dX5_joinsOfExchange_8 : decode cX5_joinsOfExchange 8 = .ok (.aload_n 0, 1) := by decide +kernel
theorem dX5_joinsOfExchange_9 : decode cX5_joinsOfExchange 9 = .ok (.getfield 14, 3) := by decide +kernel
theorem dX5_joinsOfExchange_12 : decode cX5_joinsOfExchange 12 = .ok (.iload_n 2, 1) := by decide +kernel
theorem dX5_joinsOfExchange_13 : decode cX5_joinsOfExchange 13 = .ok (.invokevirtual 43, 3) := by decide +kernel
theorem dX5_joinsOfExchange_16 : decode cX5_joinsOfExchange 16 = .ok (.if_icmp .ne 5, 3) := by decide +kernel
theorem dX5_joinsOfExchange_19 : decode cX5_joinsOfExchange 19 = .ok (.iconst 0, 1) := by decide +kernel
theorem dX5_joinsOfExchange_20 : decode cX5_joinsOfExchange 20 = .ok (.ireturn, 1) := by decide +kernel
theorem dX5_joinsOfExchange_21 : decode cX5_joinsOfExchange 21 = .ok (.aload_n 0, 1) := by decide +kernel
theorem dX5_joinsOfExchange_22 : decode cX5_joinsOfExchange 22 = .ok (.iload_n 1, 1) := by decide +kernel
theorem dX5_joinsOfExchange_23 : decode cX5_joinsOfExchange 23 = .ok (.iconst 1, 1) := by decide +kernel
theorem dX5_joinsOfExchange_24 : decode cX5_joinsOfExchange 24 = .ok (.isub, 1) := by decide +kernel
theorem dX5_joinsOfExchange_25 : decode cX5_joinsOfExchange 25 = .ok (.iload_n 1, 1) := by decide +kernel
theorem dX5_joinsOfExchange_26 : decode cX5_joinsOfExchange 26 = .ok (.iload_n 2, 1) := by decide +kernel
theorem dX5_joinsOfExchange_27 : decode cX5_joinsOfExchange 27 = .ok (.invokevirtual 107, 3) := by decide +kernel
theorem dX5_joinsOfExchange_30 : decode cX5_joinsOfExchange 30 = .ok (.aload_n 0, 1) := by decide +kernel
theorem dX5_joinsOfExchange_31 : decode cX5_joinsOfExchange 31 = .ok (.iload_n 1, 1) := by decide +kernel
theorem dX5_joinsOfExchange_32 : decode cX5_joinsOfExchange 32 = .ok (.iload_n 1, 1) := by decide +kernel
theorem dX5_joinsOfExchange_33 : decode cX5_joinsOfExchange 33 = .ok (.iload_n 2, 1) := by decide +kernel
theorem dX5_joinsOfExchange_34 : decode cX5_joinsOfExchange 34 = .ok (.invokevirtual 107, 3) := by decide +kernel
theorem dX5_joinsOfExchange_37 : decode cX5_joinsOfExchange 37 = .ok (.iadd, 1) := by decide +kernel
theorem dX5_joinsOfExchange_38 : decode cX5_joinsOfExchange 38 = .ok (.aload_n 0, 1) := by decide +kernel
theorem dX5_joinsOfExchange_39 : decode cX5_joinsOfExchange 39 = .ok (.iload_n 2, 1) := by decide +kernel
theorem dX5_joinsOfExchange_40 : decode cX5_joinsOfExchange 40 = .ok (.iconst 1, 1) := by decide +kernel
theorem dX5_joinsOfExchange_41 : decode cX5_joinsOfExchange 41 = .ok (.isub, 1) := by decide +kernel
theorem dX5_joinsOfExchange_42 : decode cX5_joinsOfExchange 42 = .ok (.iload_n 1, 1) := by decide +kernel
theorem dX5_joinsOfExchange_43 : decode cX5_joinsOfExchange 43 = .ok (.iload_n 2, 1) := by decide +kernel
theorem dX5_joinsOfExchange_44 : decode cX5_joinsOfExchange 44 = .ok (.invokevirtual 107, 3) := by decide +kernel
theorem dX5_joinsOfExchange_47 : decode cX5_joinsOfExchange 47 = .ok (.iadd, 1) := by decide +kernel
theorem dX5_joinsOfExchange_48 : decode cX5_joinsOfExchange 48 = .ok (.aload_n 0, 1) := by decide +kernel
theorem dX5_joinsOfExchange_49 : decode cX5_joinsOfExchange 49 = .ok (.iload_n 2, 1) := by decide +kernel
theorem dX5_joinsOfExchange_50 : decode cX5_joinsOfExchange 50 = .ok (.iload_n 1, 1) := by decide +kernel
theorem dX5_joinsOfExchange_51 : decode cX5_joinsOfExchange 51 = .ok (.iload_n 2, 1) := by decide +kernel
theorem dX5_joinsOfExchange_52 : decode cX5_joinsOfExchange 52 = .ok (.invokevirtual 107, 3) := by decide +kernel
theorem dX5_joinsOfExchange_55 : decode cX5_joinsOfExchange 55 = .ok (.iadd, 1) := by decide +kernel
theorem dX5_joinsOfExchange_56 : decode cX5_joinsOfExchange 56 = .ok (.ireturn, 1) := by decide +kernel
theorem dX5_joinAt_0 : decode cX5_joinAt 0 = .ok (.aload_n 0, 1) := by decide +kernel
theorem dX5_joinAt_1 : decode cX5_joinAt 1 = .ok (.iload_n 1, 1) := by decide +kernel
theorem dX5_joinAt_2 : decode cX5_joinAt 2 = .ok (.invokevirtual 75, 3) := by decide +kernel
theorem dX5_joinAt_5 : decode cX5_joinAt 5 = .ok (.ifCond .eq 31, 3) := by decide +kernel
theorem dX5_joinAt_8 : decode cX5_joinAt 8 = .ok (.aload_n 0, 1) := by decide +kernel
theorem dX5_joinAt_9 : decode cX5_joinAt 9 = .ok (.iload_n 1, 1) := by decide +kernel
theorem dX5_joinAt_10 : decode cX5_joinAt 10 = .ok (.iconst 1, 1) := by decide +kernel
theorem dX5_joinAt_11 : decode cX5_joinAt 11 = .ok (.iadd, 1) := by decide +kernel
theorem dX5_joinAt_12 : decode cX5_joinAt 12 = .ok (.invokevirtual 75, 3) := by decide +kernel
theorem dX5_joinAt_15 : decode cX5_joinAt 15 = .ok (.ifCond .eq 21, 3) := by decide +kernel
theorem dX5_joinAt_18 : decode cX5_joinAt 18 = .ok (.aload_n 0, 1) := by decide +kernel
theorem dX5_joinAt_19 : decode cX5_joinAt 19 = .ok (.iload_n 1, 1) := by decide +kernel
theorem dX5_joinAt_20 : decode cX5_joinAt 20 = .ok (.invokevirtual 59, 3) := by decide +kernel
theorem dX5_joinAt_23 : decode cX5_joinAt 23 = .ok (.aload_n 0, 1) := by decide +kernel
theorem dX5_joinAt_24 : decode cX5_joinAt 24 = .ok (.getfield 20, 3) := by decide +kernel
theorem dX5_joinAt_27 : decode cX5_joinAt 27 = .ok (.iload_n 1, 1) := by decide +kernel
theorem dX5_joinAt_28 : decode cX5_joinAt 28 = .ok (.iconst 1, 1) := by decide +kernel
theorem dX5_joinAt_29 : decode cX5_joinAt 29 = .ok (.iadd, 1) := by decide +kernel
theorem dX5_joinAt_30 : decode cX5_joinAt 30 = .ok (.invokevirtual 43, 3) := by decide +kernel
theorem dX5_joinAt_33 : decode cX5_joinAt 33 = .ok (.if_icmp .eq 5, 3) := by decide +kernel
theorem dX5_joinAt_36 : decode cX5_joinAt 36 = .ok (.iconst 0, 1) := by decide +kernel
theorem dX5_joinAt_37 : decode cX5_joinAt 37 = .ok (.ireturn, 1) := by decide +kernel
theorem dX5_joinAt_38 : decode cX5_joinAt 38 = .ok (.aload_n 0, 1) := by decide +kernel
theorem dX5_joinAt_39 : decode cX5_joinAt 39 = .ok (.iload_n 1, 1) := by decide +kernel
theorem dX5_joinAt_40 : decode cX5_joinAt 40 = .ok (.iload_n 2, 1) := by decide +kernel
theorem dX5_joinAt_41 : decode cX5_joinAt 41 = .ok (.iload_n 3, 1) := by decide +kernel
theorem dX5_joinAt_42 : decode cX5_joinAt 42 = .ok (.invokevirtual 110, 3) := by decide +kernel
theorem dX5_joinAt_45 : decode cX5_joinAt 45 = .ok (.aload_n 0, 1) := by decide +kernel
theorem dX5_joinAt_46 : decode cX5_joinAt 46 = .ok (.iload_n 1, 1) := by decide +kernel
theorem dX5_joinAt_47 : decode cX5_joinAt 47 = .ok (.iconst 1, 1) := by decide +kernel
theorem dX5_joinAt_48 : decode cX5_joinAt 48 = .ok (.iadd, 1) := by decide +kernel
theorem dX5_joinAt_49 : decode cX5_joinAt 49 = .ok (.iload_n 2, 1) := by decide +kernel
theorem dX5_joinAt_50 : decode cX5_joinAt 50 = .ok (.iload_n 3, 1) := by decide +kernel
theorem dX5_joinAt_51 : decode cX5_joinAt 51 = .ok (.invokevirtual 110, 3) := by decide +kernel
theorem dX5_joinAt_54 : decode cX5_joinAt 54 = .ok (.if_icmp .ne 7, 3) := by decide +kernel
theorem dX5_joinAt_57 : decode cX5_joinAt 57 = .ok (.iconst 1, 1) := by decide +kernel
theorem dX5_joinAt_58 : decode cX5_joinAt 58 = .ok (.goto 4, 3) := by decide +kernel
theorem dX5_joinAt_61 : decode cX5_joinAt 61 = .ok (.iconst 0, 1) := by decide +kernel
theorem dX5_joinAt_62 : decode cX5_joinAt 62 = .ok (.ireturn, 1) := by decide +kernel
theorem dX5_holderAfter_0 : decode cX5_holderAfter 0 = .ok (.iload_n 1, 1) := by decide +kernel
theorem dX5_holderAfter_1 : decode cX5_holderAfter 1 = .ok (.iload_n 2, 1) := by decide +kernel
theorem dX5_holderAfter_2 : decode cX5_holderAfter 2 = .ok (.if_icmp .ne 12, 3) := by decide +kernel
theorem dX5_holderAfter_5 : decode cX5_holderAfter 5 = .ok (.aload_n 0, 1) := by decide +kernel
theorem dX5_holderAfter_6 : decode cX5_holderAfter 6 = .ok (.getfield 14, 3) := by decide +kernel
theorem dX5_holderAfter_9 : decode cX5_holderAfter 9 = .ok (.iload_n 3, 1) := by decide +kernel
theorem dX5_holderAfter_10 : decode cX5_holderAfter 10 = .ok (.invokevirtual 43, 3) := by decide +kernel
theorem dX5_holderAfter_13 : decode cX5_holderAfter 13 = .ok (.ireturn, 1) := by decide +kernel
theorem dX5_holderAfter_14 : decode cX5_holderAfter 14 = .ok (.iload_n 1, 1) := by decide +kernel
theorem dX5_holderAfter_15 : decode cX5_holderAfter 15 = .ok (.iload_n 3, 1) := by decide +kernel
theorem dX5_holderAfter_16 : decode cX5_holderAfter 16 = .ok (.if_icmp .ne 14, 3) := by decide +kernel
theorem dX5_holderAfter_19 : decode cX5_holderAfter 19 = .ok (.aload_n 0, 1) := by decide +kernel
theorem dX5_holderAfter_20 : decode cX5_holderAfter 20 = .ok (.getfield 14, 3) := by decide +kernel
theorem dX5_holderAfter_23 : decode cX5_holderAfter 23 = .ok (.iload_n 2, 1) := by decide +kernel
theorem dX5_holderAfter_24 : decode cX5_holderAfter 24 = .ok (.invokevirtual 43, 3) := by decide +kernel
theorem dX5_holderAfter_27 : decode cX5_holderAfter 27 = .ok (.goto 11, 3) := by decide +kernel
theorem dX5_holderAfter_30 : decode cX5_holderAfter 30 = .ok (.aload_n 0, 1) := by decide +kernel
theorem dX5_holderAfter_31 : decode cX5_holderAfter 31 = .ok (.getfield 14, 3) := by decide +kernel
theorem dX5_holderAfter_34 : decode cX5_holderAfter 34 = .ok (.iload_n 1, 1) := by decide +kernel
theorem dX5_holderAfter_35 : decode cX5_holderAfter 35 = .ok (.invokevirtual 43, 3) := by decide +kernel
theorem dX5_holderAfter_38 : decode cX5_holderAfter 38 = .ok (.ireturn, 1) := by decide +kernel
theorem dX6_init_0 : decode cX6_init 0 = .ok (.aload_n 0, 1) := by decide +kernel
theorem dX6_init_1 : decode cX6_init 1 = .ok (.invokespecial 3, 3) := by decide +kernel
theorem dX6_init_4 : decode cX6_init 4 = .ok (.aload_n 0, 1) := by decide +kernel
theorem dX6_init_5 : decode cX6_init 5 = .ok (.new 9, 3) := by decide +kernel
theorem dX6_init_8 : decode cX6_init 8 = .ok (.dup, 1) := by decide +kernel
theorem dX6_init_9 : decode cX6_init 9 = .ok (.invokespecial 11, 3) := by decide +kernel
theorem dX6_init_12 : decode cX6_init 12 = .ok (.putfield 12, 3) := by decide +kernel
theorem dX6_init_15 : decode cX6_init 15 = .ok (.aload_n 0, 1) := by decide +kernel
theorem dX6_init_16 : decode cX6_init 16 = .ok (.new 9, 3) := by decide +kernel
theorem dX6_init_19 : decode cX6_init 19 = .ok (.dup, 1) := by decide +kernel
theorem dX6_init_20 : decode cX6_init 20 = .ok (.invokespecial 11, 3) := by decide +kernel
theorem dX6_init_23 : decode cX6_init 23 = .ok (.putfield 16, 3) := by decide +kernel
theorem dX6_init_26 : decode cX6_init 26 = .ok (.aload_n 0, 1) := by decide +kernel
theorem dX6_init_27 : decode cX6_init 27 = .ok (.new 19, 3) := by decide +kernel
theorem dX6_init_30 : decode cX6_init 30 = .ok (.dup, 1) := by decide +kernel
theorem dX6_init_31 : decode cX6_init 31 = .ok (.invokespecial 21, 3) := by decide +kernel
theorem dX6_init_34 : decode cX6_init 34 = .ok (.putfield 22, 3) := by decide +kernel
theorem dX6_init_37 : decode cX6_init 37 = .ok (.aload_n 0, 1) := by decide +kernel
theorem dX6_init_38 : decode cX6_init 38 = .ok (.new 26, 3) := by decide +kernel
theorem dX6_init_41 : decode cX6_init 41 = .ok (.dup, 1) := by decide +kernel
theorem dX6_init_42 : decode cX6_init 42 = .ok (.invokespecial 28, 3) := by decide +kernel
theorem dX6_init_45 : decode cX6_init 45 = .ok (.putfield 29, 3) := by decide +kernel
theorem dX6_init_48 : decode cX6_init 48 = .ok (.aload_n 0, 1) := by decide +kernel
theorem dX6_init_49 : decode cX6_init 49 = .ok (.iconst 2, 1) := by decide +kernel
theorem dX6_init_50 : decode cX6_init 50 = .ok (.anewarray 9, 3) := by decide +kernel
theorem dX6_init_53 : decode cX6_init 53 = .ok (.putfield 33, 3) := by decide +kernel
theorem dX6_init_56 : decode cX6_init 56 = .ok (.aload_n 0, 1) := by decide +kernel
theorem dX6_init_57 : decode cX6_init 57 = .ok (.new 37, 3) := by decide +kernel
theorem dX6_init_60 : decode cX6_init 60 = .ok (.dup, 1) := by decide +kernel
theorem dX6_init_61 : decode cX6_init 61 = .ok (.invokespecial 39, 3) := by decide +kernel
theorem dX6_init_64 : decode cX6_init 64 = .ok (.putfield 40, 3) := by decide +kernel
theorem dX6_init_67 : decode cX6_init 67 = .ok (.return_, 1) := by decide +kernel
theorem dX6_set_0 : decode cX6_set 0 = .ok (.aload_n 0, 1) := by decide +kernel
theorem dX6_set_1 : decode cX6_set 1 = .ok (.getfield 29, 3) := by decide +kernel
theorem dX6_set_4 : decode cX6_set 4 = .ok (.aload_n 0, 1) := by decide +kernel
theorem dX6_set_5 : decode cX6_set 5 = .ok (.getfield 12, 3) := by decide +kernel
theorem dX6_set_8 : decode cX6_set 8 = .ok (.invokevirtual 44, 3) := by decide +kernel
theorem dX6_set_11 : decode cX6_set 11 = .ok (.aload_n 0, 1) := by decide +kernel
theorem dX6_set_12 : decode cX6_set 12 = .ok (.getfield 29, 3) := by decide +kernel
theorem dX6_set_15 : decode cX6_set 15 = .ok (.aload_n 0, 1) := by decide +kernel
theorem dX6_set_16 : decode cX6_set 16 = .ok (.iload_n 1, 1) := by decide +kernel
theorem dX6_set_17 : decode cX6_set 17 = .ok (.iload_n 2, 1) := by decide +kernel
theorem dX6_set_18 : decode cX6_set 18 = .ok (.invokevirtual 48, 3) := by decide +kernel
theorem dX6_set_21 : decode cX6_set 21 = .ok (.invokevirtual 52, 3) := by decide +kernel
theorem dX6_set_24 : decode cX6_set 24 = .ok (.ireturn, 1) := by decide +kernel
theorem dX6_owner_0 : decode cX6_owner 0 = .ok (.aload_n 0, 1) := by decide +kernel
theorem dX6_owner_1 : decode cX6_owner 1 = .ok (.getfield 29, 3) := by decide +kernel
theorem dX6_owner_4 : decode cX6_owner 4 = .ok (.aload_n 0, 1) := by decide +kernel
theorem dX6_owner_5 : decode cX6_owner 5 = .ok (.getfield 12, 3) := by decide +kernel
theorem dX6_owner_8 : decode cX6_owner 8 = .ok (.invokevirtual 44, 3) := by decide +kernel
theorem dX6_owner_11 : decode cX6_owner 11 = .ok (.aload_n 0, 1) := by decide +kernel
theorem dX6_owner_12 : decode cX6_owner 12 = .ok (.getfield 29, 3) := by decide +kernel
theorem dX6_owner_15 : decode cX6_owner 15 = .ok (.aload_n 0, 1) := by decide +kernel
theorem dX6_owner_16 : decode cX6_owner 16 = .ok (.iload_n 1, 1) := by decide +kernel
theorem dX6_owner_17 : decode cX6_owner 17 = .ok (.invokevirtual 56, 3) := by decide +kernel
theorem dX6_owner_20 : decode cX6_owner 20 = .ok (.invokevirtual 52, 3) := by decide +kernel
theorem dX6_owner_23 : decode cX6_owner 23 = .ok (.ireturn, 1) := by decide +kernel
theorem dX6_pay_0 : decode cX6_pay 0 = .ok (.aload_n 0, 1) := by decide +kernel
theorem dX6_pay_1 : decode cX6_pay 1 = .ok (.getfield 29, 3) := by decide +kernel
theorem dX6_pay_4 : decode cX6_pay 4 = .ok (.aload_n 0, 1) := by decide +kernel
theorem dX6_pay_5 : decode cX6_pay 5 = .ok (.getfield 12, 3) := by decide +kernel
theorem dX6_pay_8 : decode cX6_pay 8 = .ok (.invokevirtual 44, 3) := by decide +kernel
theorem dX6_pay_11 : decode cX6_pay 11 = .ok (.aload_n 0, 1) := by decide +kernel
theorem dX6_pay_12 : decode cX6_pay 12 = .ok (.getfield 29, 3) := by decide +kernel
theorem dX6_pay_15 : decode cX6_pay 15 = .ok (.aload_n 0, 1) := by decide +kernel
theorem dX6_pay_16 : decode cX6_pay 16 = .ok (.iload_n 1, 1) := by decide +kernel
theorem dX6_pay_17 : decode cX6_pay 17 = .ok (.iload_n 2, 1) := by decide +kernel
theorem dX6_pay_18 : decode cX6_pay 18 = .ok (.invokevirtual 59, 3) := by decide +kernel
theorem dX6_pay_21 : decode cX6_pay 21 = .ok (.invokevirtual 52, 3) := by decide +kernel
theorem dX6_pay_24 : decode cX6_pay 24 = .ok (.ireturn, 1) := by decide +kernel
theorem dX6_give_0 : decode cX6_give 0 = .ok (.aload_n 0, 1) := by decide +kernel
theorem dX6_give_1 : decode cX6_give 1 = .ok (.getfield 29, 3) := by decide +kernel
theorem dX6_give_4 : decode cX6_give 4 = .ok (.aload_n 0, 1) := by decide +kernel
theorem dX6_give_5 : decode cX6_give 5 = .ok (.getfield 12, 3) := by decide +kernel
theorem dX6_give_8 : decode cX6_give 8 = .ok (.invokevirtual 44, 3) := by decide +kernel
theorem dX6_give_11 : decode cX6_give 11 = .ok (.aload_n 0, 1) := by decide +kernel
theorem dX6_give_12 : decode cX6_give 12 = .ok (.getfield 29, 3) := by decide +kernel
theorem dX6_give_15 : decode cX6_give 15 = .ok (.aload_n 0, 1) := by decide +kernel
theorem dX6_give_16 : decode cX6_give 16 = .ok (.iload_n 1, 1) := by decide +kernel
theorem dX6_give_17 : decode cX6_give 17 = .ok (.iload_n 2, 1) := by decide +kernel
theorem dX6_give_18 : decode cX6_give 18 = .ok (.iload_n 3, 1) := by decide +kernel
theorem dX6_give_19 : decode cX6_give 19 = .ok (.invokevirtual 62, 3) := by decide +kernel
theorem dX6_give_22 : decode cX6_give 22 = .ok (.invokevirtual 52, 3) := by decide +kernel
theorem dX6_give_25 : decode cX6_give 25 = .ok (.ireturn, 1) := by decide +kernel
theorem dX6_free_0 : decode cX6_free 0 = .ok (.aload_n 0, 1) := by decide +kernel
theorem dX6_free_1 : decode cX6_free 1 = .ok (.getfield 29, 3) := by decide +kernel
theorem dX6_free_4 : decode cX6_free 4 = .ok (.aload_n 0, 1) := by decide +kernel
theorem dX6_free_5 : decode cX6_free 5 = .ok (.getfield 12, 3) := by decide +kernel
theorem dX6_free_8 : decode cX6_free 8 = .ok (.invokevirtual 44, 3) := by decide +kernel
theorem dX6_free_11 : decode cX6_free 11 = .ok (.aload_n 0, 1) := by decide +kernel
theorem dX6_free_12 : decode cX6_free 12 = .ok (.getfield 29, 3) := by decide +kernel
theorem dX6_free_15 : decode cX6_free 15 = .ok (.aload_n 0, 1) := by decide +kernel
theorem dX6_free_16 : decode cX6_free 16 = .ok (.iload_n 1, 1) := by decide +kernel
theorem dX6_free_17 : decode cX6_free 17 = .ok (.iload_n 2, 1) := by decide +kernel
theorem dX6_free_18 : decode cX6_free 18 = .ok (.invokevirtual 66, 3) := by decide +kernel
theorem dX6_free_21 : decode cX6_free 21 = .ok (.invokevirtual 52, 3) := by decide +kernel
theorem dX6_free_24 : decode cX6_free 24 = .ok (.ireturn, 1) := by decide +kernel
theorem dX6_grab_0 : decode cX6_grab 0 = .ok (.aload_n 0, 1) := by decide +kernel
theorem dX6_grab_1 : decode cX6_grab 1 = .ok (.getfield 29, 3) := by decide +kernel
theorem dX6_grab_4 : decode cX6_grab 4 = .ok (.aload_n 0, 1) := by decide +kernel
theorem dX6_grab_5 : decode cX6_grab 5 = .ok (.getfield 12, 3) := by decide +kernel
theorem dX6_grab_8 : decode cX6_grab 8 = .ok (.invokevirtual 44, 3) := by decide +kernel
theorem dX6_grab_11 : decode cX6_grab 11 = .ok (.aload_n 0, 1) := by decide +kernel
theorem dX6_grab_12 : decode cX6_grab 12 = .ok (.getfield 29, 3) := by decide +kernel
theorem dX6_grab_15 : decode cX6_grab 15 = .ok (.aload_n 0, 1) := by decide +kernel
theorem dX6_grab_16 : decode cX6_grab 16 = .ok (.iload_n 1, 1) := by decide +kernel
theorem dX6_grab_17 : decode cX6_grab 17 = .ok (.iload_n 2, 1) := by decide +kernel
theorem dX6_grab_18 : decode cX6_grab 18 = .ok (.invokevirtual 69, 3) := by decide +kernel
theorem dX6_grab_21 : decode cX6_grab 21 = .ok (.invokevirtual 52, 3) := by decide +kernel
theorem dX6_grab_24 : decode cX6_grab 24 = .ok (.ireturn, 1) := by decide +kernel
theorem dX6_inherit_0 : decode cX6_inherit 0 = .ok (.aload_n 0, 1) := by decide +kernel
theorem dX6_inherit_1 : decode cX6_inherit 1 = .ok (.getfield 29, 3) := by decide +kernel
theorem dX6_inherit_4 : decode cX6_inherit 4 = .ok (.aload_n 0, 1) := by decide +kernel
theorem dX6_inherit_5 : decode cX6_inherit 5 = .ok (.getfield 12, 3) := by decide +kernel
theorem dX6_inherit_8 : decode cX6_inherit 8 = .ok (.invokevirtual 44, 3) := by decide +kernel
theorem dX6_inherit_11 : decode cX6_inherit 11 = .ok (.aload_n 0, 1) := by decide +kernel
theorem dX6_inherit_12 : decode cX6_inherit 12 = .ok (.getfield 29, 3) := by decide +kernel
theorem dX6_inherit_15 : decode cX6_inherit 15 = .ok (.aload_n 0, 1) := by decide +kernel
theorem dX6_inherit_16 : decode cX6_inherit 16 = .ok (.iload_n 1, 1) := by decide +kernel
theorem dX6_inherit_17 : decode cX6_inherit 17 = .ok (.iload_n 2, 1) := by decide +kernel
theorem dX6_inherit_18 : decode cX6_inherit 18 = .ok (.invokevirtual 72, 3) := by decide +kernel
theorem dX6_inherit_21 : decode cX6_inherit 21 = .ok (.invokevirtual 52, 3) := by decide +kernel
theorem dX6_inherit_24 : decode cX6_inherit 24 = .ok (.ireturn, 1) := by decide +kernel
theorem dX6_transfer_0 : decode cX6_transfer 0 = .ok (.aload_n 0, 1) := by decide +kernel
theorem dX6_transfer_1 : decode cX6_transfer 1 = .ok (.getfield 29, 3) := by decide +kernel
theorem dX6_transfer_4 : decode cX6_transfer 4 = .ok (.aload_n 0, 1) := by decide +kernel
theorem dX6_transfer_5 : decode cX6_transfer 5 = .ok (.getfield 12, 3) := by decide +kernel
theorem dX6_transfer_8 : decode cX6_transfer 8 = .ok (.invokevirtual 44, 3) := by decide +kernel
theorem dX6_transfer_11 : decode cX6_transfer 11 = .ok (.aload_n 0, 1) := by decide +kernel
theorem dX6_transfer_12 : decode cX6_transfer 12 = .ok (.getfield 29, 3) := by decide +kernel
theorem dX6_transfer_15 : decode cX6_transfer 15 = .ok (.aload_n 0, 1) := by decide +kernel
theorem dX6_transfer_16 : decode cX6_transfer 16 = .ok (.iload_n 1, 1) := by decide +kernel
theorem dX6_transfer_17 : decode cX6_transfer 17 = .ok (.iload_n 2, 1) := by decide +kernel
theorem dX6_transfer_18 : decode cX6_transfer 18 = .ok (.iload_n 3, 1) := by decide +kernel
theorem dX6_transfer_19 : decode cX6_transfer 19 = .ok (.iload 4, 2) := by decide +kernel
theorem dX6_transfer_21 : decode cX6_transfer 21 = .ok (.iload 5, 2) := by decide +kernel
theorem dX6_transfer_23 : decode cX6_transfer 23 = .ok (.invokevirtual 75, 3) := by decide +kernel
theorem dX6_transfer_26 : decode cX6_transfer 26 = .ok (.invokevirtual 52, 3) := by decide +kernel
theorem dX6_transfer_29 : decode cX6_transfer 29 = .ok (.ireturn, 1) := by decide +kernel
theorem dX6_drop_0 : decode cX6_drop 0 = .ok (.aload_n 0, 1) := by decide +kernel
theorem dX6_drop_1 : decode cX6_drop 1 = .ok (.getfield 29, 3) := by decide +kernel
theorem dX6_drop_4 : decode cX6_drop 4 = .ok (.aload_n 0, 1) := by decide +kernel
theorem dX6_drop_5 : decode cX6_drop 5 = .ok (.getfield 12, 3) := by decide +kernel
theorem dX6_drop_8 : decode cX6_drop 8 = .ok (.invokevirtual 44, 3) := by decide +kernel
theorem dX6_drop_11 : decode cX6_drop 11 = .ok (.aload_n 0, 1) := by decide +kernel
theorem dX6_drop_12 : decode cX6_drop 12 = .ok (.getfield 29, 3) := by decide +kernel
theorem dX6_drop_15 : decode cX6_drop 15 = .ok (.aload_n 0, 1) := by decide +kernel
theorem dX6_drop_16 : decode cX6_drop 16 = .ok (.invokevirtual 79, 3) := by decide +kernel
theorem dX6_drop_19 : decode cX6_drop 19 = .ok (.invokevirtual 52, 3) := by decide +kernel
theorem dX6_drop_22 : decode cX6_drop 22 = .ok (.ireturn, 1) := by decide +kernel
theorem dX6_close_0 : decode cX6_close 0 = .ok (.aload_n 0, 1) := by decide +kernel
theorem dX6_close_1 : decode cX6_close 1 = .ok (.getfield 29, 3) := by decide +kernel
theorem dX6_close_4 : decode cX6_close 4 = .ok (.aload_n 0, 1) := by decide +kernel
theorem dX6_close_5 : decode cX6_close 5 = .ok (.getfield 12, 3) := by decide +kernel
theorem dX6_close_8 : decode cX6_close 8 = .ok (.invokevirtual 44, 3) := by decide +kernel
theorem dX6_close_11 : decode cX6_close 11 = .ok (.aload_n 0, 1) := by decide +kernel
theorem dX6_close_12 : decode cX6_close 12 = .ok (.getfield 29, 3) := by decide +kernel
theorem dX6_close_15 : decode cX6_close 15 = .ok (.aload_n 0, 1) := by decide +kernel
theorem dX6_close_16 : decode cX6_close 16 = .ok (.invokevirtual 83, 3) := by decide +kernel
theorem dX6_close_19 : decode cX6_close 19 = .ok (.invokevirtual 52, 3) := by decide +kernel
theorem dX6_close_22 : decode cX6_close 22 = .ok (.ireturn, 1) := by decide +kernel
theorem dX6_failing_0 : decode cX6_failing 0 = .ok (.aload_n 0, 1) := by decide +kernel
theorem dX6_failing_1 : decode cX6_failing 1 = .ok (.invokevirtual 86, 3) := by decide +kernel
theorem dX6_failing_4 : decode cX6_failing 4 = .ok (.ireturn, 1) := by decide +kernel
theorem dX6_days_0 : decode cX6_days 0 = .ok (.aload_n 0, 1) := by decide +kernel
theorem dX6_days_1 : decode cX6_days 1 = .ok (.getfield 29, 3) := by decide +kernel
theorem dX6_days_4 : decode cX6_days 4 = .ok (.aload_n 0, 1) := by decide +kernel
theorem dX6_days_5 : decode cX6_days 5 = .ok (.getfield 12, 3) := by decide +kernel
theorem dX6_days_8 : decode cX6_days 8 = .ok (.invokevirtual 44, 3) := by decide +kernel
theorem dX6_days_11 : decode cX6_days 11 = .ok (.aload_n 0, 1) := by decide +kernel
theorem dX6_days_12 : decode cX6_days 12 = .ok (.getfield 29, 3) := by decide +kernel
theorem dX6_days_15 : decode cX6_days 15 = .ok (.aload_n 0, 1) := by decide +kernel
theorem dX6_days_16 : decode cX6_days 16 = .ok (.iload_n 1, 1) := by decide +kernel
theorem dX6_days_17 : decode cX6_days 17 = .ok (.invokevirtual 89, 3) := by decide +kernel
theorem dX6_days_20 : decode cX6_days 20 = .ok (.invokevirtual 52, 3) := by decide +kernel
theorem dX6_days_23 : decode cX6_days 23 = .ok (.ireturn, 1) := by decide +kernel
theorem dX6_ofRange_0 : decode cX6_ofRange 0 = .ok (.aload_n 0, 1) := by decide +kernel
theorem dX6_ofRange_1 : decode cX6_ofRange 1 = .ok (.getfield 12, 3) := by decide +kernel
theorem dX6_ofRange_4 : decode cX6_ofRange 4 = .ok (.getfield 92, 3) := by decide +kernel
theorem dX6_ofRange_7 : decode cX6_ofRange 7 = .ok (.iload_n 1, 1) := by decide +kernel
theorem dX6_ofRange_8 : decode cX6_ofRange 8 = .ok (.invokevirtual 95, 3) := by decide +kernel
theorem dX6_ofRange_11 : decode cX6_ofRange 11 = .ok (.ifCond .ne 5, 3) := by decide +kernel
theorem dX6_ofRange_14 : decode cX6_ofRange 14 = .ok (.iconst (-1), 1) := by decide +kernel
theorem dX6_ofRange_15 : decode cX6_ofRange 15 = .ok (.ireturn, 1) := by decide +kernel
theorem dX6_ofRange_16 : decode cX6_ofRange 16 = .ok (.iload_n 2, 1) := by decide +kernel
theorem dX6_ofRange_17 : decode cX6_ofRange 17 = .ok (.tableswitch 72 0 2 #[27, 42, 57], 27) := by decide +kernel
theorem dX6_ofRange_44 : decode cX6_ofRange 44 = .ok (.aload_n 0, 1) := by decide +kernel
theorem dX6_ofRange_45 : decode cX6_ofRange 45 = .ok (.getfield 12, 3) := by decide +kernel
theorem dX6_ofRange_48 : decode cX6_ofRange 48 = .ok (.getfield 92, 3) := by decide +kernel
theorem dX6_ofRange_51 : decode cX6_ofRange 51 = .ok (.getfield 99, 3) := by decide +kernel
theorem dX6_ofRange_54 : decode cX6_ofRange 54 = .ok (.iload_n 1, 1) := by decide +kernel
theorem dX6_ofRange_55 : decode cX6_ofRange 55 = .ok (.invokevirtual 103, 3) := by decide +kernel
theorem dX6_ofRange_58 : decode cX6_ofRange 58 = .ok (.ireturn, 1) := by decide +kernel
theorem dX6_ofRange_59 : decode cX6_ofRange 59 = .ok (.aload_n 0, 1) := by decide +kernel
theorem dX6_ofRange_60 : decode cX6_ofRange 60 = .ok (.getfield 12, 3) := by decide +kernel
theorem dX6_ofRange_63 : decode cX6_ofRange 63 = .ok (.getfield 92, 3) := by decide +kernel
theorem dX6_ofRange_66 : decode cX6_ofRange 66 = .ok (.getfield 108, 3) := by decide +kernel
theorem dX6_ofRange_69 : decode cX6_ofRange 69 = .ok (.iload_n 1, 1) := by decide +kernel
theorem dX6_ofRange_70 : decode cX6_ofRange 70 = .ok (.invokevirtual 103, 3) := by decide +kernel
theorem dX6_ofRange_73 : decode cX6_ofRange 73 = .ok (.ireturn, 1) := by decide +kernel
theorem dX6_ofRange_74 : decode cX6_ofRange 74 = .ok (.aload_n 0, 1) := by decide +kernel
theorem dX6_ofRange_75 : decode cX6_ofRange 75 = .ok (.getfield 12, 3) := by decide +kernel
theorem dX6_ofRange_78 : decode cX6_ofRange 78 = .ok (.getfield 92, 3) := by decide +kernel
theorem dX6_ofRange_81 : decode cX6_ofRange 81 = .ok (.getfield 111, 3) := by decide +kernel
theorem dX6_ofRange_84 : decode cX6_ofRange 84 = .ok (.iload_n 1, 1) := by decide +kernel
theorem dX6_ofRange_85 : decode cX6_ofRange 85 = .ok (.invokevirtual 103, 3) := by decide +kernel
theorem dX6_ofRange_88 : decode cX6_ofRange 88 = .ok (.ireturn, 1) := by decide +kernel
theorem dX6_ofRange_89 : decode cX6_ofRange 89 = .ok (.bipush (-2), 2) := by decide +kernel
theorem dX6_ofRange_91 : decode cX6_ofRange 91 = .ok (.ireturn, 1) := by decide +kernel
theorem dX6_ofOwner_0 : decode cX6_ofOwner 0 = .ok (.aload_n 0, 1) := by decide +kernel
theorem dX6_ofOwner_1 : decode cX6_ofOwner 1 = .ok (.getfield 12, 3) := by decide +kernel
theorem dX6_ofOwner_4 : decode cX6_ofOwner 4 = .ok (.iload_n 1, 1) := by decide +kernel
theorem dX6_ofOwner_5 : decode cX6_ofOwner 5 = .ok (.invokevirtual 114, 3) := by decide +kernel
theorem dX6_ofOwner_8 : decode cX6_ofOwner 8 = .ok (.ifCond .ne 5, 3) := by decide +kernel
theorem dX6_ofOwner_11 : decode cX6_ofOwner 11 = .ok (.iconst (-1), 1) := by decide +kernel
theorem dX6_ofOwner_12 : decode cX6_ofOwner 12 = .ok (.ireturn, 1) := by decide +kernel
theorem dX6_ofOwner_13 : decode cX6_ofOwner 13 = .ok (.iload_n 2, 1) := by decide +kernel
theorem dX6_ofOwner_14 : decode cX6_ofOwner 14 = .ok (.tableswitch 113 0 5 #[38, 53, 68, 80, 89, 101], 38) := by decide +kernel
theorem dX6_ofOwner_52 : decode cX6_ofOwner 52 = .ok (.aload_n 0, 1) := by decide +kernel
theorem dX6_ofOwner_53 : decode cX6_ofOwner 53 = .ok (.getfield 12, 3) := by decide +kernel
theorem dX6_ofOwner_56 : decode cX6_ofOwner 56 = .ok (.getfield 92, 3) := by decide +kernel
theorem dX6_ofOwner_59 : decode cX6_ofOwner 59 = .ok (.getfield 117, 3) := by decide +kernel
theorem dX6_ofOwner_62 : decode cX6_ofOwner 62 = .ok (.iload_n 1, 1) := by decide +kernel
theorem dX6_ofOwner_63 : decode cX6_ofOwner 63 = .ok (.invokevirtual 103, 3) := by decide +kernel
theorem dX6_ofOwner_66 : decode cX6_ofOwner 66 = .ok (.ireturn, 1) := by decide +kernel
theorem dX6_ofOwner_67 : decode cX6_ofOwner 67 = .ok (.aload_n 0, 1) := by decide +kernel
theorem dX6_ofOwner_68 : decode cX6_ofOwner 68 = .ok (.getfield 12, 3) := by decide +kernel
theorem dX6_ofOwner_71 : decode cX6_ofOwner 71 = .ok (.getfield 92, 3) := by decide +kernel
theorem dX6_ofOwner_74 : decode cX6_ofOwner 74 = .ok (.getfield 120, 3) := by decide +kernel
theorem dX6_ofOwner_77 : decode cX6_ofOwner 77 = .ok (.iload_n 1, 1) := by decide +kernel
theorem dX6_ofOwner_78 : decode cX6_ofOwner 78 = .ok (.invokevirtual 103, 3) := by decide +kernel
theorem dX6_ofOwner_81 : decode cX6_ofOwner 81 = .ok (.ireturn, 1) := by decide +kernel
theorem dX6_ofOwner_82 : decode cX6_ofOwner 82 = .ok (.aload_n 0, 1) := by decide +kernel
theorem dX6_ofOwner_83 : decode cX6_ofOwner 83 = .ok (.getfield 12, 3) := by decide +kernel
theorem dX6_ofOwner_86 : decode cX6_ofOwner 86 = .ok (.getfield 92, 3) := by decide +kernel
theorem dX6_ofOwner_89 : decode cX6_ofOwner 89 = .ok (.iload_n 1, 1) := by decide +kernel
theorem dX6_ofOwner_90 : decode cX6_ofOwner 90 = .ok (.invokevirtual 123, 3) := by decide +kernel
theorem dX6_ofOwner_93 : decode cX6_ofOwner 93 = .ok (.ireturn, 1) := by decide +kernel
theorem dX6_ofOwner_94 : decode cX6_ofOwner 94 = .ok (.aload_n 0, 1) := by decide +kernel
theorem dX6_ofOwner_95 : decode cX6_ofOwner 95 = .ok (.getfield 12, 3) := by decide +kernel
theorem dX6_ofOwner_98 : decode cX6_ofOwner 98 = .ok (.iload_n 1, 1) := by decide +kernel
theorem dX6_ofOwner_99 : decode cX6_ofOwner 99 = .ok (.invokevirtual 126, 3) := by decide +kernel
theorem dX6_ofOwner_102 : decode cX6_ofOwner 102 = .ok (.ireturn, 1) := by decide +kernel
theorem dX6_ofOwner_103 : decode cX6_ofOwner 103 = .ok (.aload_n 0, 1) := by decide +kernel
theorem dX6_ofOwner_104 : decode cX6_ofOwner 104 = .ok (.getfield 12, 3) := by decide +kernel
theorem dX6_ofOwner_107 : decode cX6_ofOwner 107 = .ok (.getfield 129, 3) := by decide +kernel
theorem dX6_ofOwner_110 : decode cX6_ofOwner 110 = .ok (.iload_n 1, 1) := by decide +kernel
theorem dX6_ofOwner_111 : decode cX6_ofOwner 111 = .ok (.invokevirtual 103, 3) := by decide +kernel
theorem dX6_ofOwner_114 : decode cX6_ofOwner 114 = .ok (.ireturn, 1) := by decide +kernel
theorem dX6_ofOwner_115 : decode cX6_ofOwner 115 = .ok (.aload_n 0, 1) := by decide +kernel
theorem dX6_ofOwner_116 : decode cX6_ofOwner 116 = .ok (.getfield 12, 3) := by decide +kernel
theorem dX6_ofOwner_119 : decode cX6_ofOwner 119 = .ok (.getfield 132, 3) := by decide +kernel
theorem dX6_ofOwner_122 : decode cX6_ofOwner 122 = .ok (.iload_n 1, 1) := by decide +kernel
theorem dX6_ofOwner_123 : decode cX6_ofOwner 123 = .ok (.invokevirtual 103, 3) := by decide +kernel
theorem dX6_ofOwner_126 : decode cX6_ofOwner 126 = .ok (.ireturn, 1) := by decide +kernel
theorem dX6_ofOwner_127 : decode cX6_ofOwner 127 = .ok (.bipush (-2), 2) := by decide +kernel
theorem dX6_ofOwner_129 : decode cX6_ofOwner 129 = .ok (.ireturn, 1) := by decide +kernel
theorem dX6_money_0 : decode cX6_money 0 = .ok (.aload_n 0, 1) := by decide +kernel
theorem dX6_money_1 : decode cX6_money 1 = .ok (.getfield 12, 3) := by decide +kernel
theorem dX6_money_4 : decode cX6_money 4 = .ok (.iload_n 1, 1) := by decide +kernel
theorem dX6_money_5 : decode cX6_money 5 = .ok (.invokevirtual 114, 3) := by decide +kernel
theorem dX6_money_8 : decode cX6_money 8 = .ok (.ifCond .eq 14, 3) := by decide +kernel
theorem dX6_money_11 : decode cX6_money 11 = .ok (.aload_n 0, 1) := by decide +kernel
theorem dX6_money_12 : decode cX6_money 12 = .ok (.getfield 12, 3) := by decide +kernel
theorem dX6_money_15 : decode cX6_money 15 = .ok (.iload_n 1, 1) := by decide +kernel
theorem dX6_money_16 : decode cX6_money 16 = .ok (.invokevirtual 135, 3) := by decide +kernel
theorem dX6_money_19 : decode cX6_money 19 = .ok (.goto 6, 3) := by decide +kernel
theorem dX6_money_22 : decode cX6_money 22 = .ok (.ldc2_w 139, 3) := by decide +kernel
theorem dX6_money_25 : decode cX6_money 25 = .ok (.lreturn, 1) := by decide +kernel
theorem dX6_ownerAt_0 : decode cX6_ownerAt 0 = .ok (.iload_n 1, 1) := by decide +kernel
theorem dX6_ownerAt_1 : decode cX6_ownerAt 1 = .ok (.ifCond .lt 10, 3) := by decide +kernel
theorem dX6_ownerAt_4 : decode cX6_ownerAt 4 = .ok (.iload_n 1, 1) := by decide +kernel
theorem dX6_ownerAt_5 : decode cX6_ownerAt 5 = .ok (.sipush 10000, 3) := by decide +kernel
theorem dX6_ownerAt_8 : decode cX6_ownerAt 8 = .ok (.if_icmp .lt 8, 3) := by decide +kernel
theorem dX6_ownerAt_11 : decode cX6_ownerAt 11 = .ok (.bipush (-2), 2) := by decide +kernel
theorem dX6_ownerAt_13 : decode cX6_ownerAt 13 = .ok (.goto 14, 3) := by decide +kernel
theorem dX6_ownerAt_16 : decode cX6_ownerAt 16 = .ok (.aload_n 0, 1) := by decide +kernel
theorem dX6_ownerAt_17 : decode cX6_ownerAt 17 = .ok (.getfield 12, 3) := by decide +kernel
theorem dX6_ownerAt_20 : decode cX6_ownerAt 20 = .ok (.getfield 92, 3) := by decide +kernel
theorem dX6_ownerAt_23 : decode cX6_ownerAt 23 = .ok (.iload_n 1, 1) := by decide +kernel
theorem dX6_ownerAt_24 : decode cX6_ownerAt 24 = .ok (.invokevirtual 141, 3) := by decide +kernel
theorem dX6_ownerAt_27 : decode cX6_ownerAt 27 = .ok (.ireturn, 1) := by decide +kernel
theorem dX6_ofTransfer_0 : decode cX6_ofTransfer 0 = .ok (.aload_n 0, 1) := by decide +kernel
theorem dX6_ofTransfer_1 : decode cX6_ofTransfer 1 = .ok (.getfield 12, 3) := by decide +kernel
theorem dX6_ofTransfer_4 : decode cX6_ofTransfer 4 = .ok (.getfield 144, 3) := by decide +kernel
theorem dX6_ofTransfer_7 : decode cX6_ofTransfer 7 = .ok (.iload_n 1, 1) := by decide +kernel
theorem dX6_ofTransfer_8 : decode cX6_ofTransfer 8 = .ok (.invokevirtual 148, 3) := by decide +kernel
theorem dX6_ofTransfer_11 : decode cX6_ofTransfer 11 = .ok (.ifCond .ne 5, 3) := by decide +kernel
theorem dX6_ofTransfer_14 : decode cX6_ofTransfer 14 = .ok (.iconst (-1), 1) := by decide +kernel
theorem dX6_ofTransfer_15 : decode cX6_ofTransfer 15 = .ok (.ireturn, 1) := by decide +kernel
theorem dX6_ofTransfer_16 : decode cX6_ofTransfer 16 = .ok (.iload_n 2, 1) := by decide +kernel
theorem dX6_ofTransfer_17 : decode cX6_ofTransfer 17 = .ok (.ifCond .lt 8, 3) := by decide +kernel
theorem dX6_ofTransfer_20 : decode cX6_ofTransfer 20 = .ok (.iload_n 2, 1) := by decide +kernel
theorem dX6_ofTransfer_21 : decode cX6_ofTransfer 21 = .ok (.iconst 5, 1) := by decide +kernel
theorem dX6_ofTransfer_22 : decode cX6_ofTransfer 22 = .ok (.if_icmp .lt 8, 3) := by decide +kernel
theorem dX6_ofTransfer_25 : decode cX6_ofTransfer 25 = .ok (.bipush (-2), 2) := by decide +kernel
theorem dX6_ofTransfer_27 : decode cX6_ofTransfer 27 = .ok (.goto 15, 3) := by decide +kernel
theorem dX6_ofTransfer_30 : decode cX6_ofTransfer 30 = .ok (.aload_n 0, 1) := by decide +kernel
theorem dX6_ofTransfer_31 : decode cX6_ofTransfer 31 = .ok (.getfield 12, 3) := by decide +kernel
theorem dX6_ofTransfer_34 : decode cX6_ofTransfer 34 = .ok (.getfield 144, 3) := by decide +kernel
theorem dX6_ofTransfer_37 : decode cX6_ofTransfer 37 = .ok (.iload_n 1, 1) := by decide +kernel
theorem dX6_ofTransfer_38 : decode cX6_ofTransfer 38 = .ok (.iload_n 2, 1) := by decide +kernel
theorem dX6_ofTransfer_39 : decode cX6_ofTransfer 39 = .ok (.invokevirtual 153, 3) := by decide +kernel
theorem dX6_ofTransfer_42 : decode cX6_ofTransfer 42 = .ok (.ireturn, 1) := by decide +kernel
theorem dX6_count_0 : decode cX6_count 0 = .ok (.iload_n 1, 1) := by decide +kernel
theorem dX6_count_1 : decode cX6_count 1 = .ok (.tableswitch 177 0 11 #[63, 71, 79, 90, 101, 112, 123, 134, 142, 150, 161, 169], 63) := by decide +kernel
theorem dX6_count_64 : decode cX6_count 64 = .ok (.aload_n 0, 1) := by decide +kernel
theorem dX6_count_65 : decode cX6_count 65 = .ok (.getfield 12, 3) := by decide +kernel
theorem dX6_count_68 : decode cX6_count 68 = .ok (.getfield 156, 3) := by decide +kernel
theorem dX6_count_71 : decode cX6_count 71 = .ok (.ireturn, 1) := by decide +kernel
theorem dX6_count_72 : decode cX6_count 72 = .ok (.aload_n 0, 1) := by decide +kernel
theorem dX6_count_73 : decode cX6_count 73 = .ok (.getfield 12, 3) := by decide +kernel
theorem dX6_count_76 : decode cX6_count 76 = .ok (.getfield 160, 3) := by decide +kernel
theorem dX6_count_79 : decode cX6_count 79 = .ok (.ireturn, 1) := by decide +kernel
theorem dX6_count_80 : decode cX6_count 80 = .ok (.aload_n 0, 1) := by decide +kernel
theorem dX6_count_81 : decode cX6_count 81 = .ok (.getfield 12, 3) := by decide +kernel
theorem dX6_count_84 : decode cX6_count 84 = .ok (.getfield 92, 3) := by decide +kernel
theorem dX6_count_87 : decode cX6_count 87 = .ok (.getfield 163, 3) := by decide +kernel
theorem dX6_count_90 : decode cX6_count 90 = .ok (.ireturn, 1) := by decide +kernel
theorem dX6_count_91 : decode cX6_count 91 = .ok (.aload_n 0, 1) := by decide +kernel
theorem dX6_count_92 : decode cX6_count 92 = .ok (.getfield 12, 3) := by decide +kernel
theorem dX6_count_95 : decode cX6_count 95 = .ok (.getfield 92, 3) := by decide +kernel
theorem dX6_count_98 : decode cX6_count 98 = .ok (.invokevirtual 166, 3) := by decide +kernel
theorem dX6_count_101 : decode cX6_count 101 = .ok (.ireturn, 1) := by decide +kernel
theorem dX6_count_102 : decode cX6_count 102 = .ok (.aload_n 0, 1) := by decide +kernel
theorem dX6_count_103 : decode cX6_count 103 = .ok (.getfield 12, 3) := by decide +kernel
theorem dX6_count_106 : decode cX6_count 106 = .ok (.getfield 92, 3) := by decide +kernel
theorem dX6_count_109 : decode cX6_count 109 = .ok (.invokevirtual 169, 3) := by decide +kernel
theorem dX6_count_112 : decode cX6_count 112 = .ok (.ireturn, 1) := by decide +kernel
theorem dX6_count_113 : decode cX6_count 113 = .ok (.aload_n 0, 1) := by decide +kernel
theorem dX6_count_114 : decode cX6_count 114 = .ok (.getfield 12, 3) := by decide +kernel
theorem dX6_count_117 : decode cX6_count 117 = .ok (.getfield 92, 3) := by decide +kernel
theorem dX6_count_120 : decode cX6_count 120 = .ok (.invokevirtual 172, 3) := by decide +kernel
theorem dX6_count_123 : decode cX6_count 123 = .ok (.ireturn, 1) := by decide +kernel
theorem dX6_count_124 : decode cX6_count 124 = .ok (.aload_n 0, 1) := by decide +kernel
theorem dX6_count_125 : decode cX6_count 125 = .ok (.getfield 12, 3) := by decide +kernel
theorem dX6_count_128 : decode cX6_count 128 = .ok (.getfield 144, 3) := by decide +kernel
theorem dX6_count_131 : decode cX6_count 131 = .ok (.getfield 175, 3) := by decide +kernel
theorem dX6_count_134 : decode cX6_count 134 = .ok (.ireturn, 1) := by decide +kernel
theorem dX6_count_135 : decode cX6_count 135 = .ok (.aload_n 0, 1) := by decide +kernel
theorem dX6_count_136 : decode cX6_count 136 = .ok (.getfield 12, 3) := by decide +kernel
theorem dX6_count_139 : decode cX6_count 139 = .ok (.getfield 176, 3) := by decide +kernel
theorem dX6_count_142 : decode cX6_count 142 = .ok (.ireturn, 1) := by decide +kernel
theorem dX6_count_143 : decode cX6_count 143 = .ok (.aload_n 0, 1) := by decide +kernel
theorem dX6_count_144 : decode cX6_count 144 = .ok (.getfield 12, 3) := by decide +kernel
theorem dX6_count_147 : decode cX6_count 147 = .ok (.getfield 179, 3) := by decide +kernel
theorem dX6_count_150 : decode cX6_count 150 = .ok (.ireturn, 1) := by decide +kernel
theorem dX6_count_151 : decode cX6_count 151 = .ok (.aload_n 0, 1) := by decide +kernel
theorem dX6_count_152 : decode cX6_count 152 = .ok (.getfield 12, 3) := by decide +kernel
theorem dX6_count_155 : decode cX6_count 155 = .ok (.getfield 129, 3) := by decide +kernel
theorem dX6_count_158 : decode cX6_count 158 = .ok (.invokevirtual 182, 3) := by decide +kernel
theorem dX6_count_161 : decode cX6_count 161 = .ok (.ireturn, 1) := by decide +kernel
theorem dX6_count_162 : decode cX6_count 162 = .ok (.aload_n 0, 1) := by decide +kernel
theorem dX6_count_163 : decode cX6_count 163 = .ok (.getfield 40, 3) := by decide +kernel
theorem dX6_count_166 : decode cX6_count 166 = .ok (.getfield 185, 3) := by decide +kernel
theorem dX6_count_169 : decode cX6_count 169 = .ok (.ireturn, 1) := by decide +kernel
theorem dX6_count_170 : decode cX6_count 170 = .ok (.aload_n 0, 1) := by decide +kernel
theorem dX6_count_171 : decode cX6_count 171 = .ok (.getfield 29, 3) := by decide +kernel
theorem dX6_count_174 : decode cX6_count 174 = .ok (.getfield 186, 3) := by decide +kernel
theorem dX6_count_177 : decode cX6_count 177 = .ok (.ireturn, 1) := by decide +kernel
theorem dX6_count_178 : decode cX6_count 178 = .ok (.iload_n 1, 1) := by decide +kernel
theorem dX6_count_179 : decode cX6_count 179 = .ok (.bipush 12, 2) := by decide +kernel
theorem dX6_count_181 : decode cX6_count 181 = .ok (.isub, 1) := by decide +kernel
theorem dX6_count_182 : decode cX6_count 182 = .ok (.invokestatic 187, 3) := by decide +kernel
theorem dX6_count_185 : decode cX6_count 185 = .ok (.ifCond .eq 20, 3) := by decide +kernel
theorem dX6_count_188 : decode cX6_count 188 = .ok (.aload_n 0, 1) := by decide +kernel
theorem dX6_count_189 : decode cX6_count 189 = .ok (.getfield 12, 3) := by decide +kernel
theorem dX6_count_192 : decode cX6_count 192 = .ok (.getfield 190, 3) := by decide +kernel
theorem dX6_count_195 : decode cX6_count 195 = .ok (.iload_n 1, 1) := by decide +kernel
theorem dX6_count_196 : decode cX6_count 196 = .ok (.bipush 12, 2) := by decide +kernel
theorem dX6_count_198 : decode cX6_count 198 = .ok (.isub, 1) := by decide +kernel
theorem dX6_count_199 : decode cX6_count 199 = .ok (.invokevirtual 103, 3) := by decide +kernel
theorem dX6_count_202 : decode cX6_count 202 = .ok (.goto 5, 3) := by decide +kernel
theorem dX6_count_205 : decode cX6_count 205 = .ok (.bipush (-2), 2) := by decide +kernel
theorem dX6_count_207 : decode cX6_count 207 = .ok (.ireturn, 1) := by decide +kernel
theorem dX6_shareBits_0 : decode cX6_shareBits 0 = .ok (.aload_n 0, 1) := by decide +kernel
theorem dX6_shareBits_1 : decode cX6_shareBits 1 = .ok (.getfield 12, 3) := by decide +kernel
theorem dX6_shareBits_4 : decode cX6_shareBits 4 = .ok (.iload_n 1, 1) := by decide +kernel
theorem dX6_shareBits_5 : decode cX6_shareBits 5 = .ok (.invokevirtual 114, 3) := by decide +kernel
theorem dX6_shareBits_8 : decode cX6_shareBits 8 = .ok (.ifCond .ne 5, 3) := by decide +kernel
theorem dX6_shareBits_11 : decode cX6_shareBits 11 = .ok (.iconst (-1), 1) := by decide +kernel
theorem dX6_shareBits_12 : decode cX6_shareBits 12 = .ok (.ireturn, 1) := by decide +kernel
theorem dX6_shareBits_13 : decode cX6_shareBits 13 = .ok (.aload_n 0, 1) := by decide +kernel
theorem dX6_shareBits_14 : decode cX6_shareBits 14 = .ok (.getfield 12, 3) := by decide +kernel
theorem dX6_shareBits_17 : decode cX6_shareBits 17 = .ok (.getfield 92, 3) := by decide +kernel
theorem dX6_shareBits_20 : decode cX6_shareBits 20 = .ok (.getfield 120, 3) := by decide +kernel
theorem dX6_shareBits_23 : decode cX6_shareBits 23 = .ok (.iload_n 1, 1) := by decide +kernel
theorem dX6_shareBits_24 : decode cX6_shareBits 24 = .ok (.invokevirtual 103, 3) := by decide +kernel
theorem dX6_shareBits_27 : decode cX6_shareBits 27 = .ok (.aload_n 0, 1) := by decide +kernel
theorem dX6_shareBits_28 : decode cX6_shareBits 28 = .ok (.getfield 12, 3) := by decide +kernel
theorem dX6_shareBits_31 : decode cX6_shareBits 31 = .ok (.getfield 92, 3) := by decide +kernel
theorem dX6_shareBits_34 : decode cX6_shareBits 34 = .ok (.invokevirtual 166, 3) := by decide +kernel
theorem dX6_shareBits_37 : decode cX6_shareBits 37 = .ok (.invokestatic 193, 3) := by decide +kernel
theorem dX6_shareBits_40 : decode cX6_shareBits 40 = .ok (.ireturn, 1) := by decide +kernel
theorem dX6_hole_0 : decode cX6_hole 0 = .ok (.iload_n 1, 1) := by decide +kernel
theorem dX6_hole_1 : decode cX6_hole 1 = .ok (.invokestatic 196, 3) := by decide +kernel
theorem dX6_hole_4 : decode cX6_hole 4 = .ok (.ifCond .eq 12, 3) := by decide +kernel
theorem dX6_hole_7 : decode cX6_hole 7 = .ok (.iload_n 2, 1) := by decide +kernel
theorem dX6_hole_8 : decode cX6_hole 8 = .ok (.ifCond .lt 8, 3) := by decide +kernel
theorem dX6_hole_11 : decode cX6_hole 11 = .ok (.iload_n 2, 1) := by decide +kernel
theorem dX6_hole_12 : decode cX6_hole 12 = .ok (.iconst 2, 1) := by decide +kernel
theorem dX6_hole_13 : decode cX6_hole 13 = .ok (.if_icmp .le 6, 3) := by decide +kernel
theorem dX6_hole_16 : decode cX6_hole 16 = .ok (.bipush (-2), 2) := by decide +kernel
theorem dX6_hole_18 : decode cX6_hole 18 = .ok (.ireturn, 1) := by decide +kernel
theorem dX6_hole_19 : decode cX6_hole 19 = .ok (.aload_n 0, 1) := by decide +kernel
theorem dX6_hole_20 : decode cX6_hole 20 = .ok (.getfield 12, 3) := by decide +kernel
theorem dX6_hole_23 : decode cX6_hole 23 = .ok (.getfield 92, 3) := by decide +kernel
theorem dX6_hole_26 : decode cX6_hole 26 = .ok (.iload_n 1, 1) := by decide +kernel
theorem dX6_hole_27 : decode cX6_hole 27 = .ok (.iload_n 2, 1) := by decide +kernel
theorem dX6_hole_28 : decode cX6_hole 28 = .ok (.invokevirtual 199, 3) := by decide +kernel
theorem dX6_hole_31 : decode cX6_hole 31 = .ok (.istore_n 3, 1) := by decide +kernel
theorem dX6_hole_32 : decode cX6_hole 32 = .ok (.iload_n 3, 1) := by decide +kernel
theorem dX6_hole_33 : decode cX6_hole 33 = .ok (.bipush (-6), 2) := by decide +kernel
theorem dX6_hole_35 : decode cX6_hole 35 = .ok (.if_icmp .ne 8, 3) := by decide +kernel
theorem dX6_hole_38 : decode cX6_hole 38 = .ok (.bipush (-6), 2) := by decide +kernel
theorem dX6_hole_40 : decode cX6_hole 40 = .ok (.goto 14, 3) := by decide +kernel
theorem dX6_hole_43 : decode cX6_hole 43 = .ok (.aload_n 0, 1) := by decide +kernel
theorem dX6_hole_44 : decode cX6_hole 44 = .ok (.getfield 12, 3) := by decide +kernel
theorem dX6_hole_47 : decode cX6_hole 47 = .ok (.getfield 92, 3) := by decide +kernel
theorem dX6_hole_50 : decode cX6_hole 50 = .ok (.iload_n 3, 1) := by decide +kernel
theorem dX6_hole_51 : decode cX6_hole 51 = .ok (.invokevirtual 202, 3) := by decide +kernel
theorem dX6_hole_54 : decode cX6_hole 54 = .ok (.ireturn, 1) := by decide +kernel
theorem dX6_wouldBe_0 : decode cX6_wouldBe 0 = .ok (.aload_n 0, 1) := by decide +kernel
theorem dX6_wouldBe_1 : decode cX6_wouldBe 1 = .ok (.getfield 12, 3) := by decide +kernel
theorem dX6_wouldBe_4 : decode cX6_wouldBe 4 = .ok (.iload_n 1, 1) := by decide +kernel
theorem dX6_wouldBe_5 : decode cX6_wouldBe 5 = .ok (.invokevirtual 114, 3) := by decide +kernel
theorem dX6_wouldBe_8 : decode cX6_wouldBe 8 = .ok (.ifCond .ne 5, 3) := by decide +kernel
theorem dX6_wouldBe_11 : decode cX6_wouldBe 11 = .ok (.iconst (-1), 1) := by decide +kernel
theorem dX6_wouldBe_12 : decode cX6_wouldBe 12 = .ok (.ireturn, 1) := by decide +kernel
theorem dX6_wouldBe_13 : decode cX6_wouldBe 13 = .ok (.iload_n 2, 1) := by decide +kernel
theorem dX6_wouldBe_14 : decode cX6_wouldBe 14 = .ok (.iload_n 3, 1) := by decide +kernel
theorem dX6_wouldBe_15 : decode cX6_wouldBe 15 = .ok (.invokestatic 205, 3) := by decide +kernel
theorem dX6_wouldBe_18 : decode cX6_wouldBe 18 = .ok (.ifCond .ne 6, 3) := by decide +kernel
theorem dX6_wouldBe_21 : decode cX6_wouldBe 21 = .ok (.bipush (-2), 2) := by decide +kernel
theorem dX6_wouldBe_23 : decode cX6_wouldBe 23 = .ok (.ireturn, 1) := by decide +kernel
theorem dX6_wouldBe_24 : decode cX6_wouldBe 24 = .ok (.aload_n 0, 1) := by decide +kernel
theorem dX6_wouldBe_25 : decode cX6_wouldBe 25 = .ok (.getfield 22, 3) := by decide +kernel
theorem dX6_wouldBe_28 : decode cX6_wouldBe 28 = .ok (.aload_n 0, 1) := by decide +kernel
theorem dX6_wouldBe_29 : decode cX6_wouldBe 29 = .ok (.getfield 12, 3) := by decide +kernel
theorem dX6_wouldBe_32 : decode cX6_wouldBe 32 = .ok (.getfield 92, 3) := by decide +kernel
theorem dX6_wouldBe_35 : decode cX6_wouldBe 35 = .ok (.iload_n 1, 1) := by decide +kernel
theorem dX6_wouldBe_36 : decode cX6_wouldBe 36 = .ok (.iload_n 2, 1) := by decide +kernel
theorem dX6_wouldBe_37 : decode cX6_wouldBe 37 = .ok (.iload_n 3, 1) := by decide +kernel
theorem dX6_wouldBe_38 : decode cX6_wouldBe 38 = .ok (.invokevirtual 209, 3) := by decide +kernel
theorem dX6_wouldBe_41 : decode cX6_wouldBe 41 = .ok (.aload_n 0, 1) := by decide +kernel
