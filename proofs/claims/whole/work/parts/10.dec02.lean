theorem dX4_countCommon_11 : decode prog_6_method_8_code 11 = .ok (.ireturn, 1) := by decide +kernel
theorem dX4_countCommon_12 : decode prog_6_method_8_code 12 = .ok (.aload_n 0, 1) := by decide +kernel
theorem dX4_countCommon_13 : decode prog_6_method_8_code 13 = .ok (.iload_n 1, 1) := by decide +kernel
theorem dX4_countCommon_14 : decode prog_6_method_8_code 14 = .ok (.aload_n 2, 1) := by decide +kernel
theorem dX4_countCommon_15 : decode prog_6_method_8_code 15 = .ok (.getfield 9, 3) := by decide +kernel
theorem dX4_countCommon_18 : decode prog_6_method_8_code 18 = .ok (.iload_n 3, 1) := by decide +kernel
theorem dX4_countCommon_19 : decode prog_6_method_8_code 19 = .ok (.iaload, 1) := by decide +kernel
theorem dX4_countCommon_20 : decode prog_6_method_8_code 20 = .ok (.i2l, 1) := by decide +kernel
theorem dX4_countCommon_21 : decode prog_6_method_8_code 21 = .ok (.aload_n 2, 1) := by decide +kernel
theorem dX4_countCommon_22 : decode prog_6_method_8_code 22 = .ok (.getfield 15, 3) := by decide +kernel
theorem dX4_countCommon_25 : decode prog_6_method_8_code 25 = .ok (.iload_n 3, 1) := by decide +kernel
theorem dX4_countCommon_26 : decode prog_6_method_8_code 26 = .ok (.iaload, 1) := by decide +kernel
theorem dX4_countCommon_27 : decode prog_6_method_8_code 27 = .ok (.i2l, 1) := by decide +kernel
theorem dX4_countCommon_28 : decode prog_6_method_8_code 28 = .ok (.invokestatic 24, 3) := by decide +kernel
theorem dX4_countCommon_31 : decode prog_6_method_8_code 31 = .ok (.lstore 4, 2) := by decide +kernel
theorem dX4_countCommon_33 : decode prog_6_method_8_code 33 = .ok (.aload_n 0, 1) := by decide +kernel
theorem dX4_countCommon_34 : decode prog_6_method_8_code 34 = .ok (.iload_n 1, 1) := by decide +kernel
theorem dX4_countCommon_35 : decode prog_6_method_8_code 35 = .ok (.aload_n 2, 1) := by decide +kernel
theorem dX4_countCommon_36 : decode prog_6_method_8_code 36 = .ok (.getfield 9, 3) := by decide +kernel
theorem dX4_countCommon_39 : decode prog_6_method_8_code 39 = .ok (.iload_n 3, 1) := by decide +kernel
theorem dX4_countCommon_40 : decode prog_6_method_8_code 40 = .ok (.iconst 1, 1) := by decide +kernel
theorem dX4_countCommon_41 : decode prog_6_method_8_code 41 = .ok (.iadd, 1) := by decide +kernel
theorem dX4_countCommon_42 : decode prog_6_method_8_code 42 = .ok (.iaload, 1) := by decide +kernel
theorem dX4_countCommon_43 : decode prog_6_method_8_code 43 = .ok (.i2l, 1) := by decide +kernel
theorem dX4_countCommon_44 : decode prog_6_method_8_code 44 = .ok (.aload_n 2, 1) := by decide +kernel
theorem dX4_countCommon_45 : decode prog_6_method_8_code 45 = .ok (.getfield 15, 3) := by decide +kernel
theorem dX4_countCommon_48 : decode prog_6_method_8_code 48 = .ok (.iload_n 3, 1) := by decide +kernel
theorem dX4_countCommon_49 : decode prog_6_method_8_code 49 = .ok (.iconst 1, 1) := by decide +kernel
theorem dX4_countCommon_50 : decode prog_6_method_8_code 50 = .ok (.iadd, 1) := by decide +kernel
theorem dX4_countCommon_51 : decode prog_6_method_8_code 51 = .ok (.iaload, 1) := by decide +kernel
theorem dX4_countCommon_52 : decode prog_6_method_8_code 52 = .ok (.i2l, 1) := by decide +kernel
theorem dX4_countCommon_53 : decode prog_6_method_8_code 53 = .ok (.invokestatic 24, 3) := by decide +kernel
theorem dX4_countCommon_56 : decode prog_6_method_8_code 56 = .ok (.lstore 6, 2) := by decide +kernel
theorem dX4_countCommon_58 : decode prog_6_method_8_code 58 = .ok (.lload 4, 2) := by decide +kernel
theorem dX4_countCommon_60 : decode prog_6_method_8_code 60 = .ok (.lconst 0, 1) := by decide +kernel
theorem dX4_countCommon_61 : decode prog_6_method_8_code 61 = .ok (.lcmp, 1) := by decide +kernel
theorem dX4_countCommon_62 : decode prog_6_method_8_code 62 = .ok (.ifCond .ne 18, 3) := by decide +kernel
theorem dX4_countCommon_65 : decode prog_6_method_8_code 65 = .ok (.lload 6, 2) := by decide +kernel
theorem dX4_countCommon_67 : decode prog_6_method_8_code 67 = .ok (.lconst 0, 1) := by decide +kernel
theorem dX4_countCommon_68 : decode prog_6_method_8_code 68 = .ok (.lcmp, 1) := by decide +kernel
theorem dX4_countCommon_69 : decode prog_6_method_8_code 69 = .ok (.ifCond .ne 11, 3) := by decide +kernel
theorem dX4_countCommon_72 : decode prog_6_method_8_code 72 = .ok (.aload_n 0, 1) := by decide +kernel
theorem dX4_countCommon_73 : decode prog_6_method_8_code 73 = .ok (.iload_n 1, 1) := by decide +kernel
theorem dX4_countCommon_74 : decode prog_6_method_8_code 74 = .ok (.aload_n 2, 1) := by decide +kernel
theorem dX4_countCommon_75 : decode prog_6_method_8_code 75 = .ok (.iload_n 3, 1) := by decide +kernel
theorem dX4_countCommon_76 : decode prog_6_method_8_code 76 = .ok (.invokestatic 69, 3) := by decide +kernel
theorem dX4_countCommon_79 : decode prog_6_method_8_code 79 = .ok (.ireturn, 1) := by decide +kernel
theorem dX4_countCommon_80 : decode prog_6_method_8_code 80 = .ok (.lload 4, 2) := by decide +kernel
theorem dX4_countCommon_82 : decode prog_6_method_8_code 82 = .ok (.lconst 0, 1) := by decide +kernel
theorem dX4_countCommon_83 : decode prog_6_method_8_code 83 = .ok (.lcmp, 1) := by decide +kernel
theorem dX4_countCommon_84 : decode prog_6_method_8_code 84 = .ok (.ifCond .le 10, 3) := by decide +kernel
theorem dX4_countCommon_87 : decode prog_6_method_8_code 87 = .ok (.lload 6, 2) := by decide +kernel
theorem dX4_countCommon_89 : decode prog_6_method_8_code 89 = .ok (.lconst 0, 1) := by decide +kernel
theorem dX4_countCommon_90 : decode prog_6_method_8_code 90 = .ok (.lcmp, 1) := by decide +kernel
theorem dX4_countCommon_91 : decode prog_6_method_8_code 91 = .ok (.ifCond .gt 17, 3) := by decide +kernel
theorem dX4_countCommon_94 : decode prog_6_method_8_code 94 = .ok (.lload 4, 2) := by decide +kernel
theorem dX4_countCommon_96 : decode prog_6_method_8_code 96 = .ok (.lconst 0, 1) := by decide +kernel
theorem dX4_countCommon_97 : decode prog_6_method_8_code 97 = .ok (.lcmp, 1) := by decide +kernel
theorem dX4_countCommon_98 : decode prog_6_method_8_code 98 = .ok (.ifCond .ge 12, 3) := by decide +kernel
theorem dX4_countCommon_101 : decode prog_6_method_8_code 101 = .ok (.lload 6, 2) := by decide +kernel
theorem dX4_countCommon_103 : decode prog_6_method_8_code 103 = .ok (.lconst 0, 1) := by decide +kernel
theorem dX4_countCommon_104 : decode prog_6_method_8_code 104 = .ok (.lcmp, 1) := by decide +kernel
theorem dX4_countCommon_105 : decode prog_6_method_8_code 105 = .ok (.ifCond .ge 5, 3) := by decide +kernel
theorem dX4_countCommon_108 : decode prog_6_method_8_code 108 = .ok (.iconst 0, 1) := by decide +kernel
theorem dX4_countCommon_109 : decode prog_6_method_8_code 109 = .ok (.ireturn, 1) := by decide +kernel
theorem dX4_countCommon_110 : decode prog_6_method_8_code 110 = .ok (.aload_n 2, 1) := by decide +kernel
theorem dX4_countCommon_111 : decode prog_6_method_8_code 111 = .ok (.iload_n 3, 1) := by decide +kernel
theorem dX4_countCommon_112 : decode prog_6_method_8_code 112 = .ok (.aload_n 0, 1) := by decide +kernel
theorem dX4_countCommon_113 : decode prog_6_method_8_code 113 = .ok (.getfield 9, 3) := by decide +kernel
theorem dX4_countCommon_116 : decode prog_6_method_8_code 116 = .ok (.iload_n 1, 1) := by decide +kernel
theorem dX4_countCommon_117 : decode prog_6_method_8_code 117 = .ok (.iaload, 1) := by decide +kernel
theorem dX4_countCommon_118 : decode prog_6_method_8_code 118 = .ok (.i2l, 1) := by decide +kernel
theorem dX4_countCommon_119 : decode prog_6_method_8_code 119 = .ok (.aload_n 0, 1) := by decide +kernel
theorem dX4_countCommon_120 : decode prog_6_method_8_code 120 = .ok (.getfield 15, 3) := by decide +kernel
theorem dX4_countCommon_123 : decode prog_6_method_8_code 123 = .ok (.iload_n 1, 1) := by decide +kernel
theorem dX4_countCommon_124 : decode prog_6_method_8_code 124 = .ok (.iaload, 1) := by decide +kernel
theorem dX4_countCommon_125 : decode prog_6_method_8_code 125 = .ok (.i2l, 1) := by decide +kernel
theorem dX4_countCommon_126 : decode prog_6_method_8_code 126 = .ok (.invokestatic 24, 3) := by decide +kernel
theorem dX4_countCommon_129 : decode prog_6_method_8_code 129 = .ok (.lstore 8, 2) := by decide +kernel
theorem dX4_countCommon_131 : decode prog_6_method_8_code 131 = .ok (.aload_n 2, 1) := by decide +kernel
theorem dX4_countCommon_132 : decode prog_6_method_8_code 132 = .ok (.iload_n 3, 1) := by decide +kernel
theorem dX4_countCommon_133 : decode prog_6_method_8_code 133 = .ok (.aload_n 0, 1) := by decide +kernel
theorem dX4_countCommon_134 : decode prog_6_method_8_code 134 = .ok (.getfield 9, 3) := by decide +kernel
theorem dX4_countCommon_137 : decode prog_6_method_8_code 137 = .ok (.iload_n 1, 1) := by decide +kernel
theorem dX4_countCommon_138 : decode prog_6_method_8_code 138 = .ok (.iconst 1, 1) := by decide +kernel
theorem dX4_countCommon_139 : decode prog_6_method_8_code 139 = .ok (.iadd, 1) := by decide +kernel
theorem dX4_countCommon_140 : decode prog_6_method_8_code 140 = .ok (.iaload, 1) := by decide +kernel
theorem dX4_countCommon_141 : decode prog_6_method_8_code 141 = .ok (.i2l, 1) := by decide +kernel
theorem dX4_countCommon_142 : decode prog_6_method_8_code 142 = .ok (.aload_n 0, 1) := by decide +kernel
theorem dX4_countCommon_143 : decode prog_6_method_8_code 143 = .ok (.getfield 15, 3) := by decide +kernel
theorem dX4_countCommon_146 : decode prog_6_method_8_code 146 = .ok (.iload_n 1, 1) := by decide +kernel
theorem dX4_countCommon_147 : decode prog_6_method_8_code 147 = .ok (.iconst 1, 1) := by decide +kernel
theorem dX4_countCommon_148 : decode prog_6_method_8_code 148 = .ok (.iadd, 1) := by decide +kernel
theorem dX4_countCommon_149 : decode prog_6_method_8_code 149 = .ok (.iaload, 1) := by decide +kernel
theorem dX4_countCommon_150 : decode prog_6_method_8_code 150 = .ok (.i2l, 1) := by decide +kernel
theorem dX4_countCommon_151 : decode prog_6_method_8_code 151 = .ok (.invokestatic 24, 3) := by decide +kernel
theorem dX4_countCommon_154 : decode prog_6_method_8_code 154 = .ok (.lstore 10, 2) := by decide +kernel
theorem dX4_countCommon_156 : decode prog_6_method_8_code 156 = .ok (.lload 8, 2) := by decide +kernel
theorem dX4_countCommon_158 : decode prog_6_method_8_code 158 = .ok (.lconst 0, 1) := by decide +kernel
theorem dX4_countCommon_159 : decode prog_6_method_8_code 159 = .ok (.lcmp, 1) := by decide +kernel
theorem dX4_countCommon_160 : decode prog_6_method_8_code 160 = .ok (.ifCond .le 10, 3) := by decide +kernel
theorem dX4_countCommon_163 : decode prog_6_method_8_code 163 = .ok (.lload 10, 2) := by decide +kernel
theorem dX4_countCommon_165 : decode prog_6_method_8_code 165 = .ok (.lconst 0, 1) := by decide +kernel
theorem dX4_countCommon_166 : decode prog_6_method_8_code 166 = .ok (.lcmp, 1) := by decide +kernel
theorem dX4_countCommon_167 : decode prog_6_method_8_code 167 = .ok (.ifCond .gt 17, 3) := by decide +kernel
theorem dX4_countCommon_170 : decode prog_6_method_8_code 170 = .ok (.lload 8, 2) := by decide +kernel
theorem dX4_countCommon_172 : decode prog_6_method_8_code 172 = .ok (.lconst 0, 1) := by decide +kernel
theorem dX4_countCommon_173 : decode prog_6_method_8_code 173 = .ok (.lcmp, 1) := by decide +kernel
theorem dX4_countCommon_174 : decode prog_6_method_8_code 174 = .ok (.ifCond .ge 14, 3) := by decide +kernel
theorem dX4_countCommon_177 : decode prog_6_method_8_code 177 = .ok (.lload 10, 2) := by decide +kernel
theorem dX4_countCommon_179 : decode prog_6_method_8_code 179 = .ok (.lconst 0, 1) := by decide +kernel
theorem dX4_countCommon_180 : decode prog_6_method_8_code 180 = .ok (.lcmp, 1) := by decide +kernel
theorem dX4_countCommon_181 : decode prog_6_method_8_code 181 = .ok (.ifCond .ge 7, 3) := by decide +kernel
theorem dX4_countCommon_184 : decode prog_6_method_8_code 184 = .ok (.iconst 0, 1) := by decide +kernel
theorem dX4_countCommon_185 : decode prog_6_method_8_code 185 = .ok (.goto 4, 3) := by decide +kernel
theorem dX4_countCommon_188 : decode prog_6_method_8_code 188 = .ok (.iconst 1, 1) := by decide +kernel
theorem dX4_countCommon_189 : decode prog_6_method_8_code 189 = .ok (.ireturn, 1) := by decide +kernel
theorem dX4_areBoxesApart_0 : decode prog_6_method_9_code 0 = .ok (.aload_n 0, 1) := by decide +kernel
theorem dX4_areBoxesApart_1 : decode prog_6_method_9_code 1 = .ok (.getfield 9, 3) := by decide +kernel
theorem dX4_areBoxesApart_4 : decode prog_6_method_9_code 4 = .ok (.iload_n 1, 1) := by decide +kernel
theorem dX4_areBoxesApart_5 : decode prog_6_method_9_code 5 = .ok (.iaload, 1) := by decide +kernel
theorem dX4_areBoxesApart_6 : decode prog_6_method_9_code 6 = .ok (.aload_n 0, 1) := by decide +kernel
theorem dX4_areBoxesApart_7 : decode prog_6_method_9_code 7 = .ok (.getfield 9, 3) := by decide +kernel
theorem dX4_areBoxesApart_10 : decode prog_6_method_9_code 10 = .ok (.iload_n 1, 1) := by decide +kernel
theorem dX4_areBoxesApart_11 : decode prog_6_method_9_code 11 = .ok (.iconst 1, 1) := by decide +kernel
theorem dX4_areBoxesApart_12 : decode prog_6_method_9_code 12 = .ok (.iadd, 1) := by decide +kernel
theorem dX4_areBoxesApart_13 : decode prog_6_method_9_code 13 = .ok (.iaload, 1) := by decide +kernel
theorem dX4_areBoxesApart_14 : decode prog_6_method_9_code 14 = .ok (.invokestatic 73, 3) := by decide +kernel
theorem dX4_areBoxesApart_17 : decode prog_6_method_9_code 17 = .ok (.aload_n 2, 1) := by decide +kernel
theorem dX4_areBoxesApart_18 : decode prog_6_method_9_code 18 = .ok (.getfield 9, 3) := by decide +kernel
theorem dX4_areBoxesApart_21 : decode prog_6_method_9_code 21 = .ok (.iload_n 3, 1) := by decide +kernel
theorem dX4_areBoxesApart_22 : decode prog_6_method_9_code 22 = .ok (.iaload, 1) := by decide +kernel
theorem dX4_areBoxesApart_23 : decode prog_6_method_9_code 23 = .ok (.aload_n 2, 1) := by decide +kernel
theorem dX4_areBoxesApart_24 : decode prog_6_method_9_code 24 = .ok (.getfield 9, 3) := by decide +kernel
theorem dX4_areBoxesApart_27 : decode prog_6_method_9_code 27 = .ok (.iload_n 3, 1) := by decide +kernel
theorem dX4_areBoxesApart_28 : decode prog_6_method_9_code 28 = .ok (.iconst 1, 1) := by decide +kernel
theorem dX4_areBoxesApart_29 : decode prog_6_method_9_code 29 = .ok (.iadd, 1) := by decide +kernel
theorem dX4_areBoxesApart_30 : decode prog_6_method_9_code 30 = .ok (.iaload, 1) := by decide +kernel
theorem dX4_areBoxesApart_31 : decode prog_6_method_9_code 31 = .ok (.invokestatic 79, 3) := by decide +kernel
theorem dX4_areBoxesApart_34 : decode prog_6_method_9_code 34 = .ok (.if_icmp .lt 114, 3) := by decide +kernel
theorem dX4_areBoxesApart_37 : decode prog_6_method_9_code 37 = .ok (.aload_n 2, 1) := by decide +kernel
theorem dX4_areBoxesApart_38 : decode prog_6_method_9_code 38 = .ok (.getfield 9, 3) := by decide +kernel
theorem dX4_areBoxesApart_41 : decode prog_6_method_9_code 41 = .ok (.iload_n 3, 1) := by decide +kernel
theorem dX4_areBoxesApart_42 : decode prog_6_method_9_code 42 = .ok (.iaload, 1) := by decide +kernel
theorem dX4_areBoxesApart_43 : decode prog_6_method_9_code 43 = .ok (.aload_n 2, 1) := by decide +kernel
theorem dX4_areBoxesApart_44 : decode prog_6_method_9_code 44 = .ok (.getfield 9, 3) := by decide +kernel
theorem dX4_areBoxesApart_47 : decode prog_6_method_9_code 47 = .ok (.iload_n 3, 1) := by decide +kernel
theorem dX4_areBoxesApart_48 : decode prog_6_method_9_code 48 = .ok (.iconst 1, 1) := by decide +kernel
theorem dX4_areBoxesApart_49 : decode prog_6_method_9_code 49 = .ok (.iadd, 1) := by decide +kernel
theorem dX4_areBoxesApart_50 : decode prog_6_method_9_code 50 = .ok (.iaload, 1) := by decide +kernel
theorem dX4_areBoxesApart_51 : decode prog_6_method_9_code 51 = .ok (.invokestatic 73, 3) := by decide +kernel
theorem dX4_areBoxesApart_54 : decode prog_6_method_9_code 54 = .ok (.aload_n 0, 1) := by decide +kernel
theorem dX4_areBoxesApart_55 : decode prog_6_method_9_code 55 = .ok (.getfield 9, 3) := by decide +kernel
theorem dX4_areBoxesApart_58 : decode prog_6_method_9_code 58 = .ok (.iload_n 1, 1) := by decide +kernel
theorem dX4_areBoxesApart_59 : decode prog_6_method_9_code 59 = .ok (.iaload, 1) := by decide +kernel
theorem dX4_areBoxesApart_60 : decode prog_6_method_9_code 60 = .ok (.aload_n 0, 1) := by decide +kernel
theorem dX4_areBoxesApart_61 : decode prog_6_method_9_code 61 = .ok (.getfield 9, 3) := by decide +kernel
theorem dX4_areBoxesApart_64 : decode prog_6_method_9_code 64 = .ok (.iload_n 1, 1) := by decide +kernel
theorem dX4_areBoxesApart_65 : decode prog_6_method_9_code 65 = .ok (.iconst 1, 1) := by decide +kernel
theorem dX4_areBoxesApart_66 : decode prog_6_method_9_code 66 = .ok (.iadd, 1) := by decide +kernel
theorem dX4_areBoxesApart_67 : decode prog_6_method_9_code 67 = .ok (.iaload, 1) := by decide +kernel
theorem dX4_areBoxesApart_68 : decode prog_6_method_9_code 68 = .ok (.invokestatic 79, 3) := by decide +kernel
theorem dX4_areBoxesApart_71 : decode prog_6_method_9_code 71 = .ok (.if_icmp .lt 77, 3) := by decide +kernel
theorem dX4_areBoxesApart_74 : decode prog_6_method_9_code 74 = .ok (.aload_n 0, 1) := by decide +kernel
theorem dX4_areBoxesApart_75 : decode prog_6_method_9_code 75 = .ok (.getfield 15, 3) := by decide +kernel
theorem dX4_areBoxesApart_78 : decode prog_6_method_9_code 78 = .ok (.iload_n 1, 1) := by decide +kernel
theorem dX4_areBoxesApart_79 : decode prog_6_method_9_code 79 = .ok (.iaload, 1) := by decide +kernel
theorem dX4_areBoxesApart_80 : decode prog_6_method_9_code 80 = .ok (.aload_n 0, 1) := by decide +kernel
theorem dX4_areBoxesApart_81 : decode prog_6_method_9_code 81 = .ok (.getfield 15, 3) := by decide +kernel
theorem dX4_areBoxesApart_84 : decode prog_6_method_9_code 84 = .ok (.iload_n 1, 1) := by decide +kernel
theorem dX4_areBoxesApart_85 : decode prog_6_method_9_code 85 = .ok (.iconst 1, 1) := by decide +kernel
theorem dX4_areBoxesApart_86 : decode prog_6_method_9_code 86 = .ok (.iadd, 1) := by decide +kernel
theorem dX4_areBoxesApart_87 : decode prog_6_method_9_code 87 = .ok (.iaload, 1) := by decide +kernel
theorem dX4_areBoxesApart_88 : decode prog_6_method_9_code 88 = .ok (.invokestatic 73, 3) := by decide +kernel
theorem dX4_areBoxesApart_91 : decode prog_6_method_9_code 91 = .ok (.aload_n 2, 1) := by decide +kernel
theorem dX4_areBoxesApart_92 : decode prog_6_method_9_code 92 = .ok (.getfield 15, 3) := by decide +kernel
theorem dX4_areBoxesApart_95 : decode prog_6_method_9_code 95 = .ok (.iload_n 3, 1) := by decide +kernel
theorem dX4_areBoxesApart_96 : decode prog_6_method_9_code 96 = .ok (.iaload, 1) := by decide +kernel
theorem dX4_areBoxesApart_97 : decode prog_6_method_9_code 97 = .ok (.aload_n 2, 1) := by decide +kernel
theorem dX4_areBoxesApart_98 : decode prog_6_method_9_code 98 = .ok (.getfield 15, 3) := by decide +kernel
theorem dX4_areBoxesApart_101 : decode prog_6_method_9_code 101 = .ok (.iload_n 3, 1) := by decide +kernel
theorem dX4_areBoxesApart_102 : decode prog_6_method_9_code 102 = .ok (.iconst 1, 1) := by decide +kernel
theorem dX4_areBoxesApart_103 : decode prog_6_method_9_code 103 = .ok (.iadd, 1) := by decide +kernel
theorem dX4_areBoxesApart_104 : decode prog_6_method_9_code 104 = .ok (.iaload, 1) := by decide +kernel
theorem dX4_areBoxesApart_105 : decode prog_6_method_9_code 105 = .ok (.invokestatic 79, 3) := by decide +kernel
theorem dX4_areBoxesApart_108 : decode prog_6_method_9_code 108 = .ok (.if_icmp .lt 40, 3) := by decide +kernel
theorem dX4_areBoxesApart_111 : decode prog_6_method_9_code 111 = .ok (.aload_n 2, 1) := by decide +kernel
theorem dX4_areBoxesApart_112 : decode prog_6_method_9_code 112 = .ok (.getfield 15, 3) := by decide +kernel
theorem dX4_areBoxesApart_115 : decode prog_6_method_9_code 115 = .ok (.iload_n 3, 1) := by decide +kernel
theorem dX4_areBoxesApart_116 : decode prog_6_method_9_code 116 = .ok (.iaload, 1) := by decide +kernel
theorem dX4_areBoxesApart_117 : decode prog_6_method_9_code 117 = .ok (.aload_n 2, 1) := by decide +kernel
theorem dX4_areBoxesApart_118 : decode prog_6_method_9_code 118 = .ok (.getfield 15, 3) := by decide +kernel
theorem dX4_areBoxesApart_121 : decode prog_6_method_9_code 121 = .ok (.iload_n 3, 1) := by decide +kernel
theorem dX4_areBoxesApart_122 : decode prog_6_method_9_code 122 = .ok (.iconst 1, 1) := by decide +kernel
theorem dX4_areBoxesApart_123 : decode prog_6_method_9_code 123 = .ok (.iadd, 1) := by decide +kernel
theorem dX4_areBoxesApart_124 : decode prog_6_method_9_code 124 = .ok (.iaload, 1) := by decide +kernel
theorem dX4_areBoxesApart_125 : decode prog_6_method_9_code 125 = .ok (.invokestatic 73, 3) := by decide +kernel
theorem dX4_areBoxesApart_128 : decode prog_6_method_9_code 128 = .ok (.aload_n 0, 1) := by decide +kernel
theorem dX4_areBoxesApart_129 : decode prog_6_method_9_code 129 = .ok (.getfield 15, 3) := by decide +kernel
theorem dX4_areBoxesApart_132 : decode prog_6_method_9_code 132 = .ok (.iload_n 1, 1) := by decide +kernel
theorem dX4_areBoxesApart_133 : decode prog_6_method_9_code 133 = .ok (.iaload, 1) := by decide +kernel
theorem dX4_areBoxesApart_134 : decode prog_6_method_9_code 134 = .ok (.aload_n 0, 1) := by decide +kernel
theorem dX4_areBoxesApart_135 : decode prog_6_method_9_code 135 = .ok (.getfield 15, 3) := by decide +kernel
theorem dX4_areBoxesApart_138 : decode prog_6_method_9_code 138 = .ok (.iload_n 1, 1) := by decide +kernel
theorem dX4_areBoxesApart_139 : decode prog_6_method_9_code 139 = .ok (.iconst 1, 1) := by decide +kernel
theorem dX4_areBoxesApart_140 : decode prog_6_method_9_code 140 = .ok (.iadd, 1) := by decide +kernel
theorem dX4_areBoxesApart_141 : decode prog_6_method_9_code 141 = .ok (.iaload, 1) := by decide +kernel
theorem dX4_areBoxesApart_142 : decode prog_6_method_9_code 142 = .ok (.invokestatic 79, 3) := by decide +kernel
theorem dX4_areBoxesApart_145 : decode prog_6_method_9_code 145 = .ok (.if_icmp .ge 7, 3) := by decide +kernel
theorem dX4_areBoxesApart_148 : decode prog_6_method_9_code 148 = .ok (.iconst 1, 1) := by decide +kernel
theorem dX4_areBoxesApart_149 : decode prog_6_method_9_code 149 = .ok (.goto 4, 3) := by decide +kernel
theorem dX4_areBoxesApart_152 : decode prog_6_method_9_code 152 = .ok (.iconst 0, 1) := by decide +kernel
theorem dX4_areBoxesApart_153 : decode prog_6_method_9_code 153 = .ok (.ireturn, 1) := by decide +kernel
theorem dX4_countOnLine_0 : decode prog_6_method_10_code 0 = .ok (.aload_n 0, 1) := by decide +kernel
theorem dX4_countOnLine_1 : decode prog_6_method_10_code 1 = .ok (.getfield 9, 3) := by decide +kernel
theorem dX4_countOnLine_4 : decode prog_6_method_10_code 4 = .ok (.iload_n 1, 1) := by decide +kernel
theorem dX4_countOnLine_5 : decode prog_6_method_10_code 5 = .ok (.iaload, 1) := by decide +kernel
theorem dX4_countOnLine_6 : decode prog_6_method_10_code 6 = .ok (.aload_n 0, 1) := by decide +kernel
theorem dX4_countOnLine_7 : decode prog_6_method_10_code 7 = .ok (.getfield 9, 3) := by decide +kernel
theorem dX4_countOnLine_10 : decode prog_6_method_10_code 10 = .ok (.iload_n 1, 1) := by decide +kernel
theorem dX4_countOnLine_11 : decode prog_6_method_10_code 11 = .ok (.iconst 1, 1) := by decide +kernel
theorem dX4_countOnLine_12 : decode prog_6_method_10_code 12 = .ok (.iadd, 1) := by decide +kernel
theorem dX4_countOnLine_13 : decode prog_6_method_10_code 13 = .ok (.iaload, 1) := by decide +kernel
theorem dX4_countOnLine_14 : decode prog_6_method_10_code 14 = .ok (.if_icmp .eq 7, 3) := by decide +kernel
theorem dX4_countOnLine_17 : decode prog_6_method_10_code 17 = .ok (.iconst 1, 1) := by decide +kernel
theorem dX4_countOnLine_18 : decode prog_6_method_10_code 18 = .ok (.goto 4, 3) := by decide +kernel
theorem dX4_countOnLine_21 : decode prog_6_method_10_code 21 = .ok (.iconst 0, 1) := by decide +kernel
theorem dX4_countOnLine_22 : decode prog_6_method_10_code 22 = .ok (.istore 4, 2) := by decide +kernel
theorem dX4_countOnLine_24 : decode prog_6_method_10_code 24 = .ok (.iload 4, 2) := by decide +kernel
theorem dX4_countOnLine_26 : decode prog_6_method_10_code 26 = .ok (.ifCond .eq 10, 3) := by decide +kernel
theorem dX4_countOnLine_29 : decode prog_6_method_10_code 29 = .ok (.aload_n 0, 1) := by decide +kernel
theorem dX4_countOnLine_30 : decode prog_6_method_10_code 30 = .ok (.getfield 9, 3) := by decide +kernel
theorem dX4_countOnLine_33 : decode prog_6_method_10_code 33 = .ok (.goto 7, 3) := by decide +kernel
theorem dX4_countOnLine_36 : decode prog_6_method_10_code 36 = .ok (.aload_n 0, 1) := by decide +kernel
theorem dX4_countOnLine_37 : decode prog_6_method_10_code 37 = .ok (.getfield 15, 3) := by decide +kernel
theorem dX4_countOnLine_40 : decode prog_6_method_10_code 40 = .ok (.astore 5, 2) := by decide +kernel
theorem dX4_countOnLine_42 : decode prog_6_method_10_code 42 = .ok (.iload 4, 2) := by decide +kernel
theorem dX4_countOnLine_44 : decode prog_6_method_10_code 44 = .ok (.ifCond .eq 10, 3) := by decide +kernel
theorem dX4_countOnLine_47 : decode prog_6_method_10_code 47 = .ok (.aload_n 2, 1) := by decide +kernel
theorem dX4_countOnLine_48 : decode prog_6_method_10_code 48 = .ok (.getfield 9, 3) := by decide +kernel
theorem dX4_countOnLine_51 : decode prog_6_method_10_code 51 = .ok (.goto 7, 3) := by decide +kernel
theorem dX4_countOnLine_54 : decode prog_6_method_10_code 54 = .ok (.aload_n 2, 1) := by decide +kernel
theorem dX4_countOnLine_55 : decode prog_6_method_10_code 55 = .ok (.getfield 15, 3) := by decide +kernel
theorem dX4_countOnLine_58 : decode prog_6_method_10_code 58 = .ok (.astore 6, 2) := by decide +kernel
theorem dX4_countOnLine_60 : decode prog_6_method_10_code 60 = .ok (.aload 5, 2) := by decide +kernel
theorem dX4_countOnLine_62 : decode prog_6_method_10_code 62 = .ok (.iload_n 1, 1) := by decide +kernel
theorem dX4_countOnLine_63 : decode prog_6_method_10_code 63 = .ok (.iaload, 1) := by decide +kernel
theorem dX4_countOnLine_64 : decode prog_6_method_10_code 64 = .ok (.aload 5, 2) := by decide +kernel
theorem dX4_countOnLine_66 : decode prog_6_method_10_code 66 = .ok (.iload_n 1, 1) := by decide +kernel
theorem dX4_countOnLine_67 : decode prog_6_method_10_code 67 = .ok (.iconst 1, 1) := by decide +kernel
theorem dX4_countOnLine_68 : decode prog_6_method_10_code 68 = .ok (.iadd, 1) := by decide +kernel
theorem dX4_countOnLine_69 : decode prog_6_method_10_code 69 = .ok (.iaload, 1) := by decide +kernel
theorem dX4_countOnLine_70 : decode prog_6_method_10_code 70 = .ok (.invokestatic 79, 3) := by decide +kernel
theorem dX4_countOnLine_73 : decode prog_6_method_10_code 73 = .ok (.aload 6, 2) := by decide +kernel
theorem dX4_countOnLine_75 : decode prog_6_method_10_code 75 = .ok (.iload_n 3, 1) := by decide +kernel
theorem dX4_countOnLine_76 : decode prog_6_method_10_code 76 = .ok (.iaload, 1) := by decide +kernel
theorem dX4_countOnLine_77 : decode prog_6_method_10_code 77 = .ok (.aload 6, 2) := by decide +kernel
theorem dX4_countOnLine_79 : decode prog_6_method_10_code 79 = .ok (.iload_n 3, 1) := by decide +kernel
theorem dX4_countOnLine_80 : decode prog_6_method_10_code 80 = .ok (.iconst 1, 1) := by decide +kernel
theorem dX4_countOnLine_81 : decode prog_6_method_10_code 81 = .ok (.iadd, 1) := by decide +kernel
theorem dX4_countOnLine_82 : decode prog_6_method_10_code 82 = .ok (.iaload, 1) := by decide +kernel
theorem dX4_countOnLine_83 : decode prog_6_method_10_code 83 = .ok (.invokestatic 79, 3) := by decide +kernel
theorem dX4_countOnLine_86 : decode prog_6_method_10_code 86 = .ok (.invokestatic 73, 3) := by decide +kernel
theorem dX4_countOnLine_89 : decode prog_6_method_10_code 89 = .ok (.istore 7, 2) := by decide +kernel
theorem dX4_countOnLine_91 : decode prog_6_method_10_code 91 = .ok (.aload 5, 2) := by decide +kernel
theorem dX4_countOnLine_93 : decode prog_6_method_10_code 93 = .ok (.iload_n 1, 1) := by decide +kernel
theorem dX4_countOnLine_94 : decode prog_6_method_10_code 94 = .ok (.iaload, 1) := by decide +kernel
theorem dX4_countOnLine_95 : decode prog_6_method_10_code 95 = .ok (.aload 5, 2) := by decide +kernel
theorem dX4_countOnLine_97 : decode prog_6_method_10_code 97 = .ok (.iload_n 1, 1) := by decide +kernel
theorem dX4_countOnLine_98 : decode prog_6_method_10_code 98 = .ok (.iconst 1, 1) := by decide +kernel
theorem dX4_countOnLine_99 : decode prog_6_method_10_code 99 = .ok (.iadd, 1) := by decide +kernel
theorem dX4_countOnLine_100 : decode prog_6_method_10_code 100 = .ok (.iaload, 1) := by decide +kernel
theorem dX4_countOnLine_101 : decode prog_6_method_10_code 101 = .ok (.invokestatic 73, 3) := by decide +kernel
theorem dX4_countOnLine_104 : decode prog_6_method_10_code 104 = .ok (.aload 6, 2) := by decide +kernel
theorem dX4_countOnLine_106 : decode prog_6_method_10_code 106 = .ok (.iload_n 3, 1) := by decide +kernel
theorem dX4_countOnLine_107 : decode prog_6_method_10_code 107 = .ok (.iaload, 1) := by decide +kernel
theorem dX4_countOnLine_108 : decode prog_6_method_10_code 108 = .ok (.aload 6, 2) := by decide +kernel
theorem dX4_countOnLine_110 : decode prog_6_method_10_code 110 = .ok (.iload_n 3, 1) := by decide +kernel
theorem dX4_countOnLine_111 : decode prog_6_method_10_code 111 = .ok (.iconst 1, 1) := by decide +kernel
theorem dX4_countOnLine_112 : decode prog_6_method_10_code 112 = .ok (.iadd, 1) := by decide +kernel
theorem dX4_countOnLine_113 : decode prog_6_method_10_code 113 = .ok (.iaload, 1) := by decide +kernel
theorem dX4_countOnLine_114 : decode prog_6_method_10_code 114 = .ok (.invokestatic 73, 3) := by decide +kernel
theorem dX4_countOnLine_117 : decode prog_6_method_10_code 117 = .ok (.invokestatic 79, 3) := by decide +kernel
theorem dX4_countOnLine_120 : decode prog_6_method_10_code 120 = .ok (.istore 8, 2) := by decide +kernel
theorem dX4_countOnLine_122 : decode prog_6_method_10_code 122 = .ok (.iload 7, 2) := by decide +kernel
theorem dX4_countOnLine_124 : decode prog_6_method_10_code 124 = .ok (.iload 8, 2) := by decide +kernel
theorem dX4_countOnLine_126 : decode prog_6_method_10_code 126 = .ok (.if_icmp .le 5, 3) := by decide +kernel
theorem dX4_countOnLine_129 : decode prog_6_method_10_code 129 = .ok (.iconst 0, 1) := by decide +kernel
theorem dX4_countOnLine_130 : decode prog_6_method_10_code 130 = .ok (.ireturn, 1) := by decide +kernel
theorem dX4_countOnLine_131 : decode prog_6_method_10_code 131 = .ok (.iload 7, 2) := by decide +kernel
theorem dX4_countOnLine_133 : decode prog_6_method_10_code 133 = .ok (.iload 8, 2) := by decide +kernel
theorem dX4_countOnLine_135 : decode prog_6_method_10_code 135 = .ok (.if_icmp .ne 7, 3) := by decide +kernel
theorem dX4_countOnLine_138 : decode prog_6_method_10_code 138 = .ok (.iconst 1, 1) := by decide +kernel
theorem dX4_countOnLine_139 : decode prog_6_method_10_code 139 = .ok (.goto 4, 3) := by decide +kernel
theorem dX4_countOnLine_142 : decode prog_6_method_10_code 142 = .ok (.iconst 2, 1) := by decide +kernel
theorem dX4_countOnLine_143 : decode prog_6_method_10_code 143 = .ok (.ireturn, 1) := by decide +kernel
theorem dX4_isInWindow_0 : decode prog_6_method_11_code 0 = .ok (.aload_n 0, 1) := by decide +kernel
theorem dX4_isInWindow_1 : decode prog_6_method_11_code 1 = .ok (.getfield 32, 3) := by decide +kernel
theorem dX4_isInWindow_4 : decode prog_6_method_11_code 4 = .ok (.iload_n 1, 1) := by decide +kernel
theorem dX4_isInWindow_5 : decode prog_6_method_11_code 5 = .ok (.if_icmp .lt 28, 3) := by decide +kernel
theorem dX4_isInWindow_8 : decode prog_6_method_11_code 8 = .ok (.aload_n 0, 1) := by decide +kernel
theorem dX4_isInWindow_9 : decode prog_6_method_11_code 9 = .ok (.getfield 28, 3) := by decide +kernel
theorem dX4_isInWindow_12 : decode prog_6_method_11_code 12 = .ok (.iload_n 3, 1) := by decide +kernel
theorem dX4_isInWindow_13 : decode prog_6_method_11_code 13 = .ok (.if_icmp .gt 20, 3) := by decide +kernel
theorem dX4_isInWindow_16 : decode prog_6_method_11_code 16 = .ok (.aload_n 0, 1) := by decide +kernel
theorem dX4_isInWindow_17 : decode prog_6_method_11_code 17 = .ok (.getfield 38, 3) := by decide +kernel
theorem dX4_isInWindow_20 : decode prog_6_method_11_code 20 = .ok (.iload_n 2, 1) := by decide +kernel
theorem dX4_isInWindow_21 : decode prog_6_method_11_code 21 = .ok (.if_icmp .lt 12, 3) := by decide +kernel
theorem dX4_isInWindow_24 : decode prog_6_method_11_code 24 = .ok (.aload_n 0, 1) := by decide +kernel
theorem dX4_isInWindow_25 : decode prog_6_method_11_code 25 = .ok (.getfield 35, 3) := by decide +kernel
theorem dX4_isInWindow_28 : decode prog_6_method_11_code 28 = .ok (.iload 4, 2) := by decide +kernel
theorem dX4_isInWindow_30 : decode prog_6_method_11_code 30 = .ok (.if_icmp .le 5, 3) := by decide +kernel
theorem dX4_isInWindow_33 : decode prog_6_method_11_code 33 = .ok (.iconst 0, 1) := by decide +kernel
theorem dX4_isInWindow_34 : decode prog_6_method_11_code 34 = .ok (.ireturn, 1) := by decide +kernel
theorem dX4_isInWindow_35 : decode prog_6_method_11_code 35 = .ok (.aload_n 0, 1) := by decide +kernel
theorem dX4_isInWindow_36 : decode prog_6_method_11_code 36 = .ok (.getfield 41, 3) := by decide +kernel
theorem dX4_isInWindow_39 : decode prog_6_method_11_code 39 = .ok (.ifCond .ne 5, 3) := by decide +kernel
theorem dX4_isInWindow_42 : decode prog_6_method_11_code 42 = .ok (.iconst 1, 1) := by decide +kernel
theorem dX4_isInWindow_43 : decode prog_6_method_11_code 43 = .ok (.ireturn, 1) := by decide +kernel
theorem dX4_isInWindow_44 : decode prog_6_method_11_code 44 = .ok (.iconst 0, 1) := by decide +kernel
theorem dX4_isInWindow_45 : decode prog_6_method_11_code 45 = .ok (.istore 5, 2) := by decide +kernel
theorem dX4_isInWindow_47 : decode prog_6_method_11_code 47 = .ok (.iload 5, 2) := by decide +kernel
theorem dX4_isInWindow_49 : decode prog_6_method_11_code 49 = .ok (.iconst 1, 1) := by decide +kernel
theorem dX4_isInWindow_50 : decode prog_6_method_11_code 50 = .ok (.iadd, 1) := by decide +kernel
theorem dX4_isInWindow_51 : decode prog_6_method_11_code 51 = .ok (.aload_n 0, 1) := by decide +kernel
theorem dX4_isInWindow_52 : decode prog_6_method_11_code 52 = .ok (.getfield 51, 3) := by decide +kernel
theorem dX4_isInWindow_55 : decode prog_6_method_11_code 55 = .ok (.if_icmp .ge 259, 3) := by decide +kernel
theorem dX4_isInWindow_58 : decode prog_6_method_11_code 58 = .ok (.aload_n 0, 1) := by decide +kernel
theorem dX4_isInWindow_59 : decode prog_6_method_11_code 59 = .ok (.getfield 9, 3) := by decide +kernel
theorem dX4_isInWindow_62 : decode prog_6_method_11_code 62 = .ok (.iload 5, 2) := by decide +kernel
theorem dX4_isInWindow_64 : decode prog_6_method_11_code 64 = .ok (.iaload, 1) := by decide +kernel
theorem dX4_isInWindow_65 : decode prog_6_method_11_code 65 = .ok (.aload_n 0, 1) := by decide +kernel
theorem dX4_isInWindow_66 : decode prog_6_method_11_code 66 = .ok (.getfield 9, 3) := by decide +kernel
theorem dX4_isInWindow_69 : decode prog_6_method_11_code 69 = .ok (.iload 5, 2) := by decide +kernel
theorem dX4_isInWindow_71 : decode prog_6_method_11_code 71 = .ok (.iconst 1, 1) := by decide +kernel
theorem dX4_isInWindow_72 : decode prog_6_method_11_code 72 = .ok (.iadd, 1) := by decide +kernel
theorem dX4_isInWindow_73 : decode prog_6_method_11_code 73 = .ok (.iaload, 1) := by decide +kernel
theorem dX4_isInWindow_74 : decode prog_6_method_11_code 74 = .ok (.invokestatic 73, 3) := by decide +kernel
theorem dX4_isInWindow_77 : decode prog_6_method_11_code 77 = .ok (.iload_n 1, 1) := by decide +kernel
theorem dX4_isInWindow_78 : decode prog_6_method_11_code 78 = .ok (.if_icmp .lt 73, 3) := by decide +kernel
theorem dX4_isInWindow_81 : decode prog_6_method_11_code 81 = .ok (.aload_n 0, 1) := by decide +kernel
theorem dX4_isInWindow_82 : decode prog_6_method_11_code 82 = .ok (.getfield 9, 3) := by decide +kernel
theorem dX4_isInWindow_85 : decode prog_6_method_11_code 85 = .ok (.iload 5, 2) := by decide +kernel
theorem dX4_isInWindow_87 : decode prog_6_method_11_code 87 = .ok (.iaload, 1) := by decide +kernel
theorem dX4_isInWindow_88 : decode prog_6_method_11_code 88 = .ok (.aload_n 0, 1) := by decide +kernel
theorem dX4_isInWindow_89 : decode prog_6_method_11_code 89 = .ok (.getfield 9, 3) := by decide +kernel
theorem dX4_isInWindow_92 : decode prog_6_method_11_code 92 = .ok (.iload 5, 2) := by decide +kernel
theorem dX4_isInWindow_94 : decode prog_6_method_11_code 94 = .ok (.iconst 1, 1) := by decide +kernel
theorem dX4_isInWindow_95 : decode prog_6_method_11_code 95 = .ok (.iadd, 1) := by decide +kernel
theorem dX4_isInWindow_96 : decode prog_6_method_11_code 96 = .ok (.iaload, 1) := by decide +kernel
theorem dX4_isInWindow_97 : decode prog_6_method_11_code 97 = .ok (.invokestatic 79, 3) := by decide +kernel
theorem dX4_isInWindow_100 : decode prog_6_method_11_code 100 = .ok (.iload_n 3, 1) := by decide +kernel
theorem dX4_isInWindow_101 : decode prog_6_method_11_code 101 = .ok (.if_icmp .gt 50, 3) := by decide +kernel
theorem dX4_isInWindow_104 : decode prog_6_method_11_code 104 = .ok (.aload_n 0, 1) := by decide +kernel
theorem dX4_isInWindow_105 : decode prog_6_method_11_code 105 = .ok (.getfield 15, 3) := by decide +kernel
theorem dX4_isInWindow_108 : decode prog_6_method_11_code 108 = .ok (.iload 5, 2) := by decide +kernel
theorem dX4_isInWindow_110 : decode prog_6_method_11_code 110 = .ok (.iaload, 1) := by decide +kernel
theorem dX4_isInWindow_111 : decode prog_6_method_11_code 111 = .ok (.aload_n 0, 1) := by decide +kernel
theorem dX4_isInWindow_112 : decode prog_6_method_11_code 112 = .ok (.getfield 15, 3) := by decide +kernel
theorem dX4_isInWindow_115 : decode prog_6_method_11_code 115 = .ok (.iload 5, 2) := by decide +kernel
theorem dX4_isInWindow_117 : decode prog_6_method_11_code 117 = .ok (.iconst 1, 1) := by decide +kernel
theorem dX4_isInWindow_118 : decode prog_6_method_11_code 118 = .ok (.iadd, 1) := by decide +kernel
theorem dX4_isInWindow_119 : decode prog_6_method_11_code 119 = .ok (.iaload, 1) := by decide +kernel
theorem dX4_isInWindow_120 : decode prog_6_method_11_code 120 = .ok (.invokestatic 73, 3) := by decide +kernel
theorem dX4_isInWindow_123 : decode prog_6_method_11_code 123 = .ok (.iload_n 2, 1) := by decide +kernel
theorem dX4_isInWindow_124 : decode prog_6_method_11_code 124 = .ok (.if_icmp .lt 27, 3) := by decide +kernel
theorem dX4_isInWindow_127 : decode prog_6_method_11_code 127 = .ok (.aload_n 0, 1) := by decide +kernel
theorem dX4_isInWindow_128 : decode prog_6_method_11_code 128 = .ok (.getfield 15, 3) := by decide +kernel
theorem dX4_isInWindow_131 : decode prog_6_method_11_code 131 = .ok (.iload 5, 2) := by decide +kernel
theorem dX4_isInWindow_133 : decode prog_6_method_11_code 133 = .ok (.iaload, 1) := by decide +kernel
theorem dX4_isInWindow_134 : decode prog_6_method_11_code 134 = .ok (.aload_n 0, 1) := by decide +kernel
theorem dX4_isInWindow_135 : decode prog_6_method_11_code 135 = .ok (.getfield 15, 3) := by decide +kernel
theorem dX4_isInWindow_138 : decode prog_6_method_11_code 138 = .ok (.iload 5, 2) := by decide +kernel
theorem dX4_isInWindow_140 : decode prog_6_method_11_code 140 = .ok (.iconst 1, 1) := by decide +kernel
theorem dX4_isInWindow_141 : decode prog_6_method_11_code 141 = .ok (.iadd, 1) := by decide +kernel
theorem dX4_isInWindow_142 : decode prog_6_method_11_code 142 = .ok (.iaload, 1) := by decide +kernel
theorem dX4_isInWindow_143 : decode prog_6_method_11_code 143 = .ok (.invokestatic 79, 3) := by decide +kernel
theorem dX4_isInWindow_146 : decode prog_6_method_11_code 146 = .ok (.iload 4, 2) := by decide +kernel
theorem dX4_isInWindow_148 : decode prog_6_method_11_code 148 = .ok (.if_icmp .le 7, 3) := by decide +kernel
theorem dX4_isInWindow_151 : decode prog_6_method_11_code 151 = .ok (.iconst 1, 1) := by decide +kernel
theorem dX4_isInWindow_152 : decode prog_6_method_11_code 152 = .ok (.goto 4, 3) := by decide +kernel
theorem dX4_isInWindow_155 : decode prog_6_method_11_code 155 = .ok (.iconst 0, 1) := by decide +kernel
theorem dX4_isInWindow_156 : decode prog_6_method_11_code 156 = .ok (.istore 6, 2) := by decide +kernel
theorem dX4_isInWindow_158 : decode prog_6_method_11_code 158 = .ok (.aload_n 0, 1) := by decide +kernel
theorem dX4_isInWindow_159 : decode prog_6_method_11_code 159 = .ok (.getfield 61, 3) := by decide +kernel
theorem dX4_isInWindow_162 : decode prog_6_method_11_code 162 = .ok (.iload 5, 2) := by decide +kernel
theorem dX4_isInWindow_164 : decode prog_6_method_11_code 164 = .ok (.baload, 1) := by decide +kernel
theorem dX4_isInWindow_165 : decode prog_6_method_11_code 165 = .ok (.ifCond .ne 143, 3) := by decide +kernel
theorem dX4_isInWindow_168 : decode prog_6_method_11_code 168 = .ok (.iload 6, 2) := by decide +kernel
theorem dX4_isInWindow_170 : decode prog_6_method_11_code 170 = .ok (.ifCond .eq 6, 3) := by decide +kernel
theorem dX4_isInWindow_173 : decode prog_6_method_11_code 173 = .ok (.goto 135, 3) := by decide +kernel
theorem dX4_isInWindow_176 : decode prog_6_method_11_code 176 = .ok (.aload_n 0, 1) := by decide +kernel
theorem dX4_isInWindow_177 : decode prog_6_method_11_code 177 = .ok (.iload 5, 2) := by decide +kernel
theorem dX4_isInWindow_179 : decode prog_6_method_11_code 179 = .ok (.iload_n 1, 1) := by decide +kernel
theorem dX4_isInWindow_180 : decode prog_6_method_11_code 180 = .ok (.i2l, 1) := by decide +kernel
theorem dX4_isInWindow_181 : decode prog_6_method_11_code 181 = .ok (.iload_n 2, 1) := by decide +kernel
theorem dX4_isInWindow_182 : decode prog_6_method_11_code 182 = .ok (.i2l, 1) := by decide +kernel
theorem dX4_isInWindow_183 : decode prog_6_method_11_code 183 = .ok (.invokestatic 24, 3) := by decide +kernel
theorem dX4_isInWindow_186 : decode prog_6_method_11_code 186 = .ok (.lstore 7, 2) := by decide +kernel
theorem dX4_isInWindow_188 : decode prog_6_method_11_code 188 = .ok (.aload_n 0, 1) := by decide +kernel
theorem dX4_isInWindow_189 : decode prog_6_method_11_code 189 = .ok (.iload 5, 2) := by decide +kernel
theorem dX4_isInWindow_191 : decode prog_6_method_11_code 191 = .ok (.iload_n 1, 1) := by decide +kernel
theorem dX4_isInWindow_192 : decode prog_6_method_11_code 192 = .ok (.i2l, 1) := by decide +kernel
theorem dX4_isInWindow_193 : decode prog_6_method_11_code 193 = .ok (.iload 4, 2) := by decide +kernel
theorem dX4_isInWindow_195 : decode prog_6_method_11_code 195 = .ok (.i2l, 1) := by decide +kernel
theorem dX4_isInWindow_196 : decode prog_6_method_11_code 196 = .ok (.invokestatic 24, 3) := by decide +kernel
theorem dX4_isInWindow_199 : decode prog_6_method_11_code 199 = .ok (.lstore 9, 2) := by decide +kernel
theorem dX4_isInWindow_201 : decode prog_6_method_11_code 201 = .ok (.aload_n 0, 1) := by decide +kernel
theorem dX4_isInWindow_202 : decode prog_6_method_11_code 202 = .ok (.iload 5, 2) := by decide +kernel
theorem dX4_isInWindow_204 : decode prog_6_method_11_code 204 = .ok (.iload_n 3, 1) := by decide +kernel
theorem dX4_isInWindow_205 : decode prog_6_method_11_code 205 = .ok (.i2l, 1) := by decide +kernel
theorem dX4_isInWindow_206 : decode prog_6_method_11_code 206 = .ok (.iload_n 2, 1) := by decide +kernel
theorem dX4_isInWindow_207 : decode prog_6_method_11_code 207 = .ok (.i2l, 1) := by decide +kernel
theorem dX4_isInWindow_208 : decode prog_6_method_11_code 208 = .ok (.invokestatic 24, 3) := by decide +kernel
theorem dX4_isInWindow_211 : decode prog_6_method_11_code 211 = .ok (.lstore 11, 2) := by decide +kernel
theorem dX4_isInWindow_213 : decode prog_6_method_11_code 213 = .ok (.aload_n 0, 1) := by decide +kernel
theorem dX4_isInWindow_214 : decode prog_6_method_11_code 214 = .ok (.iload 5, 2) := by decide +kernel
theorem dX4_isInWindow_216 : decode prog_6_method_11_code 216 = .ok (.iload_n 3, 1) := by decide +kernel
theorem dX4_isInWindow_217 : decode prog_6_method_11_code 217 = .ok (.i2l, 1) := by decide +kernel
theorem dX4_isInWindow_218 : decode prog_6_method_11_code 218 = .ok (.iload 4, 2) := by decide +kernel
theorem dX4_isInWindow_220 : decode prog_6_method_11_code 220 = .ok (.i2l, 1) := by decide +kernel
theorem dX4_isInWindow_221 : decode prog_6_method_11_code 221 = .ok (.invokestatic 24, 3) := by decide +kernel
theorem dX4_isInWindow_224 : decode prog_6_method_11_code 224 = .ok (.lstore 13, 2) := by decide +kernel
theorem dX4_isInWindow_226 : decode prog_6_method_11_code 226 = .ok (.lload 7, 2) := by decide +kernel
theorem dX4_isInWindow_228 : decode prog_6_method_11_code 228 = .ok (.lconst 0, 1) := by decide +kernel
theorem dX4_isInWindow_229 : decode prog_6_method_11_code 229 = .ok (.lcmp, 1) := by decide +kernel
theorem dX4_isInWindow_230 : decode prog_6_method_11_code 230 = .ok (.ifCond .le 28, 3) := by decide +kernel
theorem dX4_isInWindow_233 : decode prog_6_method_11_code 233 = .ok (.lload 9, 2) := by decide +kernel
theorem dX4_isInWindow_235 : decode prog_6_method_11_code 235 = .ok (.lconst 0, 1) := by decide +kernel
theorem dX4_isInWindow_236 : decode prog_6_method_11_code 236 = .ok (.lcmp, 1) := by decide +kernel
theorem dX4_isInWindow_237 : decode prog_6_method_11_code 237 = .ok (.ifCond .le 21, 3) := by decide +kernel
theorem dX4_isInWindow_240 : decode prog_6_method_11_code 240 = .ok (.lload 11, 2) := by decide +kernel
theorem dX4_isInWindow_242 : decode prog_6_method_11_code 242 = .ok (.lconst 0, 1) := by decide +kernel
theorem dX4_isInWindow_243 : decode prog_6_method_11_code 243 = .ok (.lcmp, 1) := by decide +kernel
theorem dX4_isInWindow_244 : decode prog_6_method_11_code 244 = .ok (.ifCond .le 14, 3) := by decide +kernel
theorem dX4_isInWindow_247 : decode prog_6_method_11_code 247 = .ok (.lload 13, 2) := by decide +kernel
theorem dX4_isInWindow_249 : decode prog_6_method_11_code 249 = .ok (.lconst 0, 1) := by decide +kernel
theorem dX4_isInWindow_250 : decode prog_6_method_11_code 250 = .ok (.lcmp, 1) := by decide +kernel
theorem dX4_isInWindow_251 : decode prog_6_method_11_code 251 = .ok (.ifCond .le 7, 3) := by decide +kernel
theorem dX4_isInWindow_254 : decode prog_6_method_11_code 254 = .ok (.iconst 1, 1) := by decide +kernel
theorem dX4_isInWindow_255 : decode prog_6_method_11_code 255 = .ok (.goto 4, 3) := by decide +kernel
theorem dX4_isInWindow_258 : decode prog_6_method_11_code 258 = .ok (.iconst 0, 1) := by decide +kernel
theorem dX4_isInWindow_259 : decode prog_6_method_11_code 259 = .ok (.istore 15, 2) := by decide +kernel
theorem dX4_isInWindow_261 : decode prog_6_method_11_code 261 = .ok (.lload 7, 2) := by decide +kernel
theorem dX4_isInWindow_263 : decode prog_6_method_11_code 263 = .ok (.lconst 0, 1) := by decide +kernel
theorem dX4_isInWindow_264 : decode prog_6_method_11_code 264 = .ok (.lcmp, 1) := by decide +kernel
theorem dX4_isInWindow_265 : decode prog_6_method_11_code 265 = .ok (.ifCond .ge 28, 3) := by decide +kernel
theorem dX4_isInWindow_268 : decode prog_6_method_11_code 268 = .ok (.lload 9, 2) := by decide +kernel
theorem dX4_isInWindow_270 : decode prog_6_method_11_code 270 = .ok (.lconst 0, 1) := by decide +kernel
theorem dX4_isInWindow_271 : decode prog_6_method_11_code 271 = .ok (.lcmp, 1) := by decide +kernel
theorem dX4_isInWindow_272 : decode prog_6_method_11_code 272 = .ok (.ifCond .ge 21, 3) := by decide +kernel
theorem dX4_isInWindow_275 : decode prog_6_method_11_code 275 = .ok (.lload 11, 2) := by decide +kernel
theorem dX4_isInWindow_277 : decode prog_6_method_11_code 277 = .ok (.lconst 0, 1) := by decide +kernel
theorem dX4_isInWindow_278 : decode prog_6_method_11_code 278 = .ok (.lcmp, 1) := by decide +kernel
theorem dX4_isInWindow_279 : decode prog_6_method_11_code 279 = .ok (.ifCond .ge 14, 3) := by decide +kernel
theorem dX4_isInWindow_282 : decode prog_6_method_11_code 282 = .ok (.lload 13, 2) := by decide +kernel
theorem dX4_isInWindow_284 : decode prog_6_method_11_code 284 = .ok (.lconst 0, 1) := by decide +kernel
theorem dX4_isInWindow_285 : decode prog_6_method_11_code 285 = .ok (.lcmp, 1) := by decide +kernel
theorem dX4_isInWindow_286 : decode prog_6_method_11_code 286 = .ok (.ifCond .ge 7, 3) := by decide +kernel
theorem dX4_isInWindow_289 : decode prog_6_method_11_code 289 = .ok (.iconst 1, 1) := by decide +kernel
theorem dX4_isInWindow_290 : decode prog_6_method_11_code 290 = .ok (.goto 4, 3) := by decide +kernel
theorem dX4_isInWindow_293 : decode prog_6_method_11_code 293 = .ok (.iconst 0, 1) := by decide +kernel
theorem dX4_isInWindow_294 : decode prog_6_method_11_code 294 = .ok (.istore 16, 2) := by decide +kernel
theorem dX4_isInWindow_296 : decode prog_6_method_11_code 296 = .ok (.iload 15, 2) := by decide +kernel
theorem dX4_isInWindow_298 : decode prog_6_method_11_code 298 = .ok (.ifCond .ne 10, 3) := by decide +kernel
theorem dX4_isInWindow_301 : decode prog_6_method_11_code 301 = .ok (.iload 16, 2) := by decide +kernel
theorem dX4_isInWindow_303 : decode prog_6_method_11_code 303 = .ok (.ifCond .ne 5, 3) := by decide +kernel
theorem dX4_isInWindow_306 : decode prog_6_method_11_code 306 = .ok (.iconst 1, 1) := by decide +kernel
theorem dX4_isInWindow_307 : decode prog_6_method_11_code 307 = .ok (.ireturn, 1) := by decide +kernel
theorem dX4_isInWindow_308 : decode prog_6_method_11_code 308 = .ok (.iinc 5 1, 3) := by decide +kernel
theorem dX4_isInWindow_311 : decode prog_6_method_11_code 311 = .ok (.goto (-264), 3) := by decide +kernel
theorem dX4_isInWindow_314 : decode prog_6_method_11_code 314 = .ok (.aload_n 0, 1) := by decide +kernel
theorem dX4_isInWindow_315 : decode prog_6_method_11_code 315 = .ok (.getfield 41, 3) := by decide +kernel
theorem dX4_isInWindow_318 : decode prog_6_method_11_code 318 = .ok (.iconst 2, 1) := by decide +kernel
theorem dX4_isInWindow_319 : decode prog_6_method_11_code 319 = .ok (.if_icmp .ne 16, 3) := by decide +kernel
theorem dX4_isInWindow_322 : decode prog_6_method_11_code 322 = .ok (.aload_n 0, 1) := by decide +kernel
theorem dX4_isInWindow_323 : decode prog_6_method_11_code 323 = .ok (.iload_n 1, 1) := by decide +kernel
theorem dX4_isInWindow_324 : decode prog_6_method_11_code 324 = .ok (.iload_n 2, 1) := by decide +kernel
theorem dX4_isInWindow_325 : decode prog_6_method_11_code 325 = .ok (.invokestatic 82, 3) := by decide +kernel
theorem dX4_isInWindow_328 : decode prog_6_method_11_code 328 = .ok (.ifCond .lt 7, 3) := by decide +kernel
theorem dX4_isInWindow_331 : decode prog_6_method_11_code 331 = .ok (.iconst 1, 1) := by decide +kernel
theorem dX4_isInWindow_332 : decode prog_6_method_11_code 332 = .ok (.goto 4, 3) := by decide +kernel
theorem dX4_isInWindow_335 : decode prog_6_method_11_code 335 = .ok (.iconst 0, 1) := by decide +kernel
theorem dX4_isInWindow_336 : decode prog_6_method_11_code 336 = .ok (.ireturn, 1) := by decide +kernel
theorem dX4_upperProduct_0 : decode prog_6_method_12_code 0 = .ok (.lload_n 0, 1) := by decide +kernel
theorem dX4_upperProduct_1 : decode prog_6_method_12_code 1 = .ok (.bipush 32, 2) := by decide +kernel
theorem dX4_upperProduct_3 : decode prog_6_method_12_code 3 = .ok (.lushr, 1) := by decide +kernel
theorem dX4_upperProduct_4 : decode prog_6_method_12_code 4 = .ok (.lstore 4, 2) := by decide +kernel
theorem dX4_upperProduct_6 : decode prog_6_method_12_code 6 = .ok (.lload_n 0, 1) := by decide +kernel
theorem dX4_upperProduct_7 : decode prog_6_method_12_code 7 = .ok (.ldc2_w 85, 3) := by decide +kernel
theorem dX4_upperProduct_10 : decode prog_6_method_12_code 10 = .ok (.land, 1) := by decide +kernel
theorem dX4_upperProduct_11 : decode prog_6_method_12_code 11 = .ok (.lstore 6, 2) := by decide +kernel
theorem dX4_upperProduct_13 : decode prog_6_method_12_code 13 = .ok (.lload_n 2, 1) := by decide +kernel
theorem dX4_upperProduct_14 : decode prog_6_method_12_code 14 = .ok (.bipush 32, 2) := by decide +kernel
theorem dX4_upperProduct_16 : decode prog_6_method_12_code 16 = .ok (.lushr, 1) := by decide +kernel
theorem dX4_upperProduct_17 : decode prog_6_method_12_code 17 = .ok (.lstore 8, 2) := by decide +kernel
theorem dX4_upperProduct_19 : decode prog_6_method_12_code 19 = .ok (.lload_n 2, 1) := by decide +kernel
theorem dX4_upperProduct_20 : decode prog_6_method_12_code 20 = .ok (.ldc2_w 85, 3) := by decide +kernel
theorem dX4_upperProduct_23 : decode prog_6_method_12_code 23 = .ok (.land, 1) := by decide +kernel
theorem dX4_upperProduct_24 : decode prog_6_method_12_code 24 = .ok (.lstore 10, 2) := by decide +kernel
theorem dX4_upperProduct_26 : decode prog_6_method_12_code 26 = .ok (.lload 4, 2) := by decide +kernel
theorem dX4_upperProduct_28 : decode prog_6_method_12_code 28 = .ok (.lload 10, 2) := by decide +kernel
theorem dX4_upperProduct_30 : decode prog_6_method_12_code 30 = .ok (.lmul, 1) := by decide +kernel
theorem dX4_upperProduct_31 : decode prog_6_method_12_code 31 = .ok (.lload 6, 2) := by decide +kernel
theorem dX4_upperProduct_33 : decode prog_6_method_12_code 33 = .ok (.lload 10, 2) := by decide +kernel
theorem dX4_upperProduct_35 : decode prog_6_method_12_code 35 = .ok (.lmul, 1) := by decide +kernel
theorem dX4_upperProduct_36 : decode prog_6_method_12_code 36 = .ok (.bipush 32, 2) := by decide +kernel
theorem dX4_upperProduct_38 : decode prog_6_method_12_code 38 = .ok (.lushr, 1) := by decide +kernel
theorem dX4_upperProduct_39 : decode prog_6_method_12_code 39 = .ok (.ladd, 1) := by decide +kernel
theorem dX4_upperProduct_40 : decode prog_6_method_12_code 40 = .ok (.lstore 12, 2) := by decide +kernel
theorem dX4_upperProduct_42 : decode prog_6_method_12_code 42 = .ok (.lload 6, 2) := by decide +kernel
theorem dX4_upperProduct_44 : decode prog_6_method_12_code 44 = .ok (.lload 8, 2) := by decide +kernel
theorem dX4_upperProduct_46 : decode prog_6_method_12_code 46 = .ok (.lmul, 1) := by decide +kernel
theorem dX4_upperProduct_47 : decode prog_6_method_12_code 47 = .ok (.lload 12, 2) := by decide +kernel
theorem dX4_upperProduct_49 : decode prog_6_method_12_code 49 = .ok (.ldc2_w 85, 3) := by decide +kernel
theorem dX4_upperProduct_52 : decode prog_6_method_12_code 52 = .ok (.land, 1) := by decide +kernel
theorem dX4_upperProduct_53 : decode prog_6_method_12_code 53 = .ok (.ladd, 1) := by decide +kernel
theorem dX4_upperProduct_54 : decode prog_6_method_12_code 54 = .ok (.lstore 14, 2) := by decide +kernel
theorem dX4_upperProduct_56 : decode prog_6_method_12_code 56 = .ok (.lload 4, 2) := by decide +kernel
theorem dX4_upperProduct_58 : decode prog_6_method_12_code 58 = .ok (.lload 8, 2) := by decide +kernel
theorem dX4_upperProduct_60 : decode prog_6_method_12_code 60 = .ok (.lmul, 1) := by decide +kernel
theorem dX4_upperProduct_61 : decode prog_6_method_12_code 61 = .ok (.lload 12, 2) := by decide +kernel
theorem dX4_upperProduct_63 : decode prog_6_method_12_code 63 = .ok (.bipush 32, 2) := by decide +kernel
theorem dX4_upperProduct_65 : decode prog_6_method_12_code 65 = .ok (.lushr, 1) := by decide +kernel
theorem dX4_upperProduct_66 : decode prog_6_method_12_code 66 = .ok (.ladd, 1) := by decide +kernel
theorem dX4_upperProduct_67 : decode prog_6_method_12_code 67 = .ok (.lload 14, 2) := by decide +kernel
theorem dX4_upperProduct_69 : decode prog_6_method_12_code 69 = .ok (.bipush 32, 2) := by decide +kernel
theorem dX4_upperProduct_71 : decode prog_6_method_12_code 71 = .ok (.lushr, 1) := by decide +kernel
theorem dX4_upperProduct_72 : decode prog_6_method_12_code 72 = .ok (.ladd, 1) := by decide +kernel
theorem dX4_upperProduct_73 : decode prog_6_method_12_code 73 = .ok (.lreturn, 1) := by decide +kernel
theorem dX4_compareBits_0 : decode prog_6_method_13_code 0 = .ok (.lload_n 0, 1) := by decide +kernel
theorem dX4_compareBits_1 : decode prog_6_method_13_code 1 = .ok (.lload_n 2, 1) := by decide +kernel
theorem dX4_compareBits_2 : decode prog_6_method_13_code 2 = .ok (.lcmp, 1) := by decide +kernel
theorem dX4_compareBits_3 : decode prog_6_method_13_code 3 = .ok (.ifCond .ne 5, 3) := by decide +kernel
theorem dX4_compareBits_6 : decode prog_6_method_13_code 6 = .ok (.iconst 0, 1) := by decide +kernel
theorem dX4_compareBits_7 : decode prog_6_method_13_code 7 = .ok (.ireturn, 1) := by decide +kernel
theorem dX4_compareBits_8 : decode prog_6_method_13_code 8 = .ok (.lload_n 0, 1) := by decide +kernel
theorem dX4_compareBits_9 : decode prog_6_method_13_code 9 = .ok (.ldc2_w 87, 3) := by decide +kernel
theorem dX4_compareBits_12 : decode prog_6_method_13_code 12 = .ok (.lxor, 1) := by decide +kernel
theorem dX4_compareBits_13 : decode prog_6_method_13_code 13 = .ok (.lload_n 2, 1) := by decide +kernel
theorem dX4_compareBits_14 : decode prog_6_method_13_code 14 = .ok (.ldc2_w 87, 3) := by decide +kernel
theorem dX4_compareBits_17 : decode prog_6_method_13_code 17 = .ok (.lxor, 1) := by decide +kernel
theorem dX4_compareBits_18 : decode prog_6_method_13_code 18 = .ok (.lcmp, 1) := by decide +kernel
theorem dX4_compareBits_19 : decode prog_6_method_13_code 19 = .ok (.ifCond .ge 7, 3) := by decide +kernel
theorem dX4_compareBits_22 : decode prog_6_method_13_code 22 = .ok (.iconst (-1), 1) := by decide +kernel
theorem dX4_compareBits_23 : decode prog_6_method_13_code 23 = .ok (.goto 4, 3) := by decide +kernel
theorem dX4_compareBits_26 : decode prog_6_method_13_code 26 = .ok (.iconst 1, 1) := by decide +kernel
theorem dX4_compareBits_27 : decode prog_6_method_13_code 27 = .ok (.ireturn, 1) := by decide +kernel
theorem dX4_compareProducts_0 : decode prog_6_method_14_code 0 = .ok (.lload_n 0, 1) := by decide +kernel
theorem dX4_compareProducts_1 : decode prog_6_method_14_code 1 = .ok (.lload_n 2, 1) := by decide +kernel
theorem dX4_compareProducts_2 : decode prog_6_method_14_code 2 = .ok (.invokestatic 89, 3) := by decide +kernel
theorem dX4_compareProducts_5 : decode prog_6_method_14_code 5 = .ok (.lload 4, 2) := by decide +kernel
theorem dX4_compareProducts_7 : decode prog_6_method_14_code 7 = .ok (.lload 6, 2) := by decide +kernel
theorem dX4_compareProducts_9 : decode prog_6_method_14_code 9 = .ok (.invokestatic 89, 3) := by decide +kernel
theorem dX4_compareProducts_12 : decode prog_6_method_14_code 12 = .ok (.invokestatic 93, 3) := by decide +kernel
theorem dX4_compareProducts_15 : decode prog_6_method_14_code 15 = .ok (.istore 8, 2) := by decide +kernel
theorem dX4_compareProducts_17 : decode prog_6_method_14_code 17 = .ok (.iload 8, 2) := by decide +kernel
theorem dX4_compareProducts_19 : decode prog_6_method_14_code 19 = .ok (.ifCond .eq 8, 3) := by decide +kernel
theorem dX4_compareProducts_22 : decode prog_6_method_14_code 22 = .ok (.iload 8, 2) := by decide +kernel
theorem dX4_compareProducts_24 : decode prog_6_method_14_code 24 = .ok (.goto 14, 3) := by decide +kernel
theorem dX4_compareProducts_27 : decode prog_6_method_14_code 27 = .ok (.lload_n 0, 1) := by decide +kernel
theorem dX4_compareProducts_28 : decode prog_6_method_14_code 28 = .ok (.lload_n 2, 1) := by decide +kernel
theorem dX4_compareProducts_29 : decode prog_6_method_14_code 29 = .ok (.lmul, 1) := by decide +kernel
theorem dX4_compareProducts_30 : decode prog_6_method_14_code 30 = .ok (.lload 4, 2) := by decide +kernel
theorem dX4_compareProducts_32 : decode prog_6_method_14_code 32 = .ok (.lload 6, 2) := by decide +kernel
theorem dX4_compareProducts_34 : decode prog_6_method_14_code 34 = .ok (.lmul, 1) := by decide +kernel
theorem dX4_compareProducts_35 : decode prog_6_method_14_code 35 = .ok (.invokestatic 93, 3) := by decide +kernel
theorem dX4_compareProducts_38 : decode prog_6_method_14_code 38 = .ok (.ireturn, 1) := by decide +kernel
theorem dX5_init_0 : decode prog_7_method_1_code 0 = .ok (.aload_n 0, 1) := by decide +kernel
theorem dX5_init_1 : decode prog_7_method_1_code 1 = .ok (.invokespecial 3, 3) := by decide +kernel
theorem dX5_init_4 : decode prog_7_method_1_code 4 = .ok (.aload_n 0, 1) := by decide +kernel
theorem dX5_init_5 : decode prog_7_method_1_code 5 = .ok (.bipush 6, 2) := by decide +kernel
theorem dX5_init_7 : decode prog_7_method_1_code 7 = .ok (.newarray .int, 2) := by decide +kernel
theorem dX5_init_9 : decode prog_7_method_1_code 9 = .ok (.putfield 11, 3) := by decide +kernel
theorem dX5_init_12 : decode prog_7_method_1_code 12 = .ok (.aload_n 0, 1) := by decide +kernel
theorem dX5_init_13 : decode prog_7_method_1_code 13 = .ok (.new 15, 3) := by decide +kernel
theorem dX5_init_16 : decode prog_7_method_1_code 16 = .ok (.dup, 1) := by decide +kernel
theorem dX5_init_17 : decode prog_7_method_1_code 17 = .ok (.invokespecial 17, 3) := by decide +kernel
theorem dX5_init_20 : decode prog_7_method_1_code 20 = .ok (.putfield 18, 3) := by decide +kernel
theorem dX5_init_23 : decode prog_7_method_1_code 23 = .ok (.return_, 1) := by decide +kernel
theorem dX5_readStatement_0 : decode prog_7_method_2_code 0 = .ok (.aload_n 0, 1) := by decide +kernel
theorem dX5_readStatement_1 : decode prog_7_method_2_code 1 = .ok (.iconst 0, 1) := by decide +kernel
theorem dX5_readStatement_2 : decode prog_7_method_2_code 2 = .ok (.putfield 22, 3) := by decide +kernel
theorem dX5_readStatement_5 : decode prog_7_method_2_code 5 = .ok (.aload_n 0, 1) := by decide +kernel
theorem dX5_readStatement_6 : decode prog_7_method_2_code 6 = .ok (.aload_n 1, 1) := by decide +kernel
theorem dX5_readStatement_7 : decode prog_7_method_2_code 7 = .ok (.ldc 26, 2) := by decide +kernel
theorem dX5_readStatement_9 : decode prog_7_method_2_code 9 = .ok (.invokevirtual 28, 3) := by decide +kernel
theorem dX5_readStatement_12 : decode prog_7_method_2_code 12 = .ok (.putfield 34, 3) := by decide +kernel
theorem dX5_readStatement_15 : decode prog_7_method_2_code 15 = .ok (.aload_n 0, 1) := by decide +kernel
theorem dX5_readStatement_16 : decode prog_7_method_2_code 16 = .ok (.getfield 34, 3) := by decide +kernel
theorem dX5_readStatement_19 : decode prog_7_method_2_code 19 = .ok (.ifCond .lt 7, 3) := by decide +kernel
theorem dX5_readStatement_22 : decode prog_7_method_2_code 22 = .ok (.iconst 1, 1) := by decide +kernel
theorem dX5_readStatement_23 : decode prog_7_method_2_code 23 = .ok (.goto 4, 3) := by decide +kernel
theorem dX5_readStatement_26 : decode prog_7_method_2_code 26 = .ok (.iconst 0, 1) := by decide +kernel
theorem dX5_readStatement_27 : decode prog_7_method_2_code 27 = .ok (.istore_n 2, 1) := by decide +kernel
theorem dX5_readStatement_28 : decode prog_7_method_2_code 28 = .ok (.aload_n 0, 1) := by decide +kernel
theorem dX5_readStatement_29 : decode prog_7_method_2_code 29 = .ok (.getfield 34, 3) := by decide +kernel
theorem dX5_readStatement_32 : decode prog_7_method_2_code 32 = .ok (.tableswitch 210 0 12 #[68, 94, 104, 114, 210, 210, 210, 210, 210, 149, 174, 104, 184], 68) := by decide +kernel
theorem dX5_readStatement_100 : decode prog_7_method_2_code 100 = .ok (.aload_n 0, 1) := by decide +kernel
theorem dX5_readStatement_101 : decode prog_7_method_2_code 101 = .ok (.aload_n 1, 1) := by decide +kernel
theorem dX5_readStatement_102 : decode prog_7_method_2_code 102 = .ok (.iconst 1, 1) := by decide +kernel
theorem dX5_readStatement_103 : decode prog_7_method_2_code 103 = .ok (.invokevirtual 37, 3) := by decide +kernel
theorem dX5_readStatement_106 : decode prog_7_method_2_code 106 = .ok (.ifCond .eq 15, 3) := by decide +kernel
theorem dX5_readStatement_109 : decode prog_7_method_2_code 109 = .ok (.aload_n 0, 1) := by decide +kernel
theorem dX5_readStatement_110 : decode prog_7_method_2_code 110 = .ok (.aload_n 1, 1) := by decide +kernel
theorem dX5_readStatement_111 : decode prog_7_method_2_code 111 = .ok (.invokevirtual 41, 3) := by decide +kernel
theorem dX5_readStatement_114 : decode prog_7_method_2_code 114 = .ok (.ifCond .eq 7, 3) := by decide +kernel
theorem dX5_readStatement_117 : decode prog_7_method_2_code 117 = .ok (.iconst 1, 1) := by decide +kernel
theorem dX5_readStatement_118 : decode prog_7_method_2_code 118 = .ok (.goto 4, 3) := by decide +kernel
theorem dX5_readStatement_121 : decode prog_7_method_2_code 121 = .ok (.iconst 0, 1) := by decide +kernel
theorem dX5_readStatement_122 : decode prog_7_method_2_code 122 = .ok (.istore_n 2, 1) := by decide +kernel
theorem dX5_readStatement_123 : decode prog_7_method_2_code 123 = .ok (.goto 119, 3) := by decide +kernel
theorem dX5_readStatement_126 : decode prog_7_method_2_code 126 = .ok (.aload_n 0, 1) := by decide +kernel
theorem dX5_readStatement_127 : decode prog_7_method_2_code 127 = .ok (.aload_n 1, 1) := by decide +kernel
theorem dX5_readStatement_128 : decode prog_7_method_2_code 128 = .ok (.iconst 1, 1) := by decide +kernel
theorem dX5_readStatement_129 : decode prog_7_method_2_code 129 = .ok (.invokevirtual 37, 3) := by decide +kernel
theorem dX5_readStatement_132 : decode prog_7_method_2_code 132 = .ok (.istore_n 2, 1) := by decide +kernel
theorem dX5_readStatement_133 : decode prog_7_method_2_code 133 = .ok (.goto 109, 3) := by decide +kernel
theorem dX5_readStatement_136 : decode prog_7_method_2_code 136 = .ok (.aload_n 0, 1) := by decide +kernel
theorem dX5_readStatement_137 : decode prog_7_method_2_code 137 = .ok (.aload_n 1, 1) := by decide +kernel
theorem dX5_readStatement_138 : decode prog_7_method_2_code 138 = .ok (.iconst 3, 1) := by decide +kernel
theorem dX5_readStatement_139 : decode prog_7_method_2_code 139 = .ok (.invokevirtual 37, 3) := by decide +kernel
theorem dX5_readStatement_142 : decode prog_7_method_2_code 142 = .ok (.istore_n 2, 1) := by decide +kernel
theorem dX5_readStatement_143 : decode prog_7_method_2_code 143 = .ok (.goto 99, 3) := by decide +kernel
theorem dX5_readStatement_146 : decode prog_7_method_2_code 146 = .ok (.aload_n 0, 1) := by decide +kernel
theorem dX5_readStatement_147 : decode prog_7_method_2_code 147 = .ok (.aload_n 1, 1) := by decide +kernel
theorem dX5_readStatement_148 : decode prog_7_method_2_code 148 = .ok (.iconst 2, 1) := by decide +kernel
theorem dX5_readStatement_149 : decode prog_7_method_2_code 149 = .ok (.invokevirtual 37, 3) := by decide +kernel
theorem dX5_readStatement_152 : decode prog_7_method_2_code 152 = .ok (.ifCond .eq 24, 3) := by decide +kernel
theorem dX5_readStatement_155 : decode prog_7_method_2_code 155 = .ok (.aload_n 0, 1) := by decide +kernel
theorem dX5_readStatement_156 : decode prog_7_method_2_code 156 = .ok (.aload_n 1, 1) := by decide +kernel
theorem dX5_readStatement_157 : decode prog_7_method_2_code 157 = .ok (.invokevirtual 45, 3) := by decide +kernel
theorem dX5_readStatement_160 : decode prog_7_method_2_code 160 = .ok (.ifCond .eq 16, 3) := by decide +kernel
theorem dX5_readStatement_163 : decode prog_7_method_2_code 163 = .ok (.aload_n 0, 1) := by decide +kernel
theorem dX5_readStatement_164 : decode prog_7_method_2_code 164 = .ok (.aload_n 1, 1) := by decide +kernel
theorem dX5_readStatement_165 : decode prog_7_method_2_code 165 = .ok (.iconst 4, 1) := by decide +kernel
theorem dX5_readStatement_166 : decode prog_7_method_2_code 166 = .ok (.invokevirtual 37, 3) := by decide +kernel
theorem dX5_readStatement_169 : decode prog_7_method_2_code 169 = .ok (.ifCond .eq 7, 3) := by decide +kernel
theorem dX5_readStatement_172 : decode prog_7_method_2_code 172 = .ok (.iconst 1, 1) := by decide +kernel
theorem dX5_readStatement_173 : decode prog_7_method_2_code 173 = .ok (.goto 4, 3) := by decide +kernel
theorem dX5_readStatement_176 : decode prog_7_method_2_code 176 = .ok (.iconst 0, 1) := by decide +kernel
theorem dX5_readStatement_177 : decode prog_7_method_2_code 177 = .ok (.istore_n 2, 1) := by decide +kernel
theorem dX5_readStatement_178 : decode prog_7_method_2_code 178 = .ok (.goto 64, 3) := by decide +kernel
theorem dX5_readStatement_181 : decode prog_7_method_2_code 181 = .ok (.aload_n 0, 1) := by decide +kernel
theorem dX5_readStatement_182 : decode prog_7_method_2_code 182 = .ok (.aload_n 1, 1) := by decide +kernel
theorem dX5_readStatement_183 : decode prog_7_method_2_code 183 = .ok (.invokevirtual 48, 3) := by decide +kernel
theorem dX5_readStatement_186 : decode prog_7_method_2_code 186 = .ok (.ifCond .eq 15, 3) := by decide +kernel
theorem dX5_readStatement_189 : decode prog_7_method_2_code 189 = .ok (.aload_n 0, 1) := by decide +kernel
theorem dX5_readStatement_190 : decode prog_7_method_2_code 190 = .ok (.aload_n 1, 1) := by decide +kernel
theorem dX5_readStatement_191 : decode prog_7_method_2_code 191 = .ok (.invokevirtual 41, 3) := by decide +kernel
theorem dX5_readStatement_194 : decode prog_7_method_2_code 194 = .ok (.ifCond .eq 7, 3) := by decide +kernel
theorem dX5_readStatement_197 : decode prog_7_method_2_code 197 = .ok (.iconst 1, 1) := by decide +kernel
theorem dX5_readStatement_198 : decode prog_7_method_2_code 198 = .ok (.goto 4, 3) := by decide +kernel
theorem dX5_readStatement_201 : decode prog_7_method_2_code 201 = .ok (.iconst 0, 1) := by decide +kernel
theorem dX5_readStatement_202 : decode prog_7_method_2_code 202 = .ok (.istore_n 2, 1) := by decide +kernel
theorem dX5_readStatement_203 : decode prog_7_method_2_code 203 = .ok (.goto 39, 3) := by decide +kernel
theorem dX5_readStatement_206 : decode prog_7_method_2_code 206 = .ok (.aload_n 0, 1) := by decide +kernel
theorem dX5_readStatement_207 : decode prog_7_method_2_code 207 = .ok (.aload_n 1, 1) := by decide +kernel
theorem dX5_readStatement_208 : decode prog_7_method_2_code 208 = .ok (.iconst 4, 1) := by decide +kernel
theorem dX5_readStatement_209 : decode prog_7_method_2_code 209 = .ok (.invokevirtual 37, 3) := by decide +kernel
theorem dX5_readStatement_212 : decode prog_7_method_2_code 212 = .ok (.istore_n 2, 1) := by decide +kernel
theorem dX5_readStatement_213 : decode prog_7_method_2_code 213 = .ok (.goto 29, 3) := by decide +kernel
theorem dX5_readStatement_216 : decode prog_7_method_2_code 216 = .ok (.aload_n 0, 1) := by decide +kernel
theorem dX5_readStatement_217 : decode prog_7_method_2_code 217 = .ok (.aload_n 1, 1) := by decide +kernel
theorem dX5_readStatement_218 : decode prog_7_method_2_code 218 = .ok (.invokevirtual 48, 3) := by decide +kernel
theorem dX5_readStatement_221 : decode prog_7_method_2_code 221 = .ok (.ifCond .eq 16, 3) := by decide +kernel
theorem dX5_readStatement_224 : decode prog_7_method_2_code 224 = .ok (.aload_n 0, 1) := by decide +kernel
theorem dX5_readStatement_225 : decode prog_7_method_2_code 225 = .ok (.aload_n 1, 1) := by decide +kernel
theorem dX5_readStatement_226 : decode prog_7_method_2_code 226 = .ok (.iconst 4, 1) := by decide +kernel
theorem dX5_readStatement_227 : decode prog_7_method_2_code 227 = .ok (.invokevirtual 37, 3) := by decide +kernel
theorem dX5_readStatement_230 : decode prog_7_method_2_code 230 = .ok (.ifCond .eq 7, 3) := by decide +kernel
theorem dX5_readStatement_233 : decode prog_7_method_2_code 233 = .ok (.iconst 1, 1) := by decide +kernel
theorem dX5_readStatement_234 : decode prog_7_method_2_code 234 = .ok (.goto 4, 3) := by decide +kernel
theorem dX5_readStatement_237 : decode prog_7_method_2_code 237 = .ok (.iconst 0, 1) := by decide +kernel
theorem dX5_readStatement_238 : decode prog_7_method_2_code 238 = .ok (.istore_n 2, 1) := by decide +kernel
theorem dX5_readStatement_239 : decode prog_7_method_2_code 239 = .ok (.goto 3, 3) := by decide +kernel
theorem dX5_readStatement_242 : decode prog_7_method_2_code 242 = .ok (.iload_n 2, 1) := by decide +kernel
theorem dX5_readStatement_243 : decode prog_7_method_2_code 243 = .ok (.ifCond .eq 16, 3) := by decide +kernel
theorem dX5_readStatement_246 : decode prog_7_method_2_code 246 = .ok (.aload_n 1, 1) := by decide +kernel
theorem dX5_readStatement_247 : decode prog_7_method_2_code 247 = .ok (.bipush 59, 2) := by decide +kernel
theorem dX5_readStatement_249 : decode prog_7_method_2_code 249 = .ok (.invokevirtual 51, 3) := by decide +kernel
theorem dX5_readStatement_252 : decode prog_7_method_2_code 252 = .ok (.ifCond .eq 7, 3) := by decide +kernel
theorem dX5_readStatement_255 : decode prog_7_method_2_code 255 = .ok (.iconst 1, 1) := by decide +kernel
theorem dX5_readStatement_256 : decode prog_7_method_2_code 256 = .ok (.goto 4, 3) := by decide +kernel
theorem dX5_readStatement_259 : decode prog_7_method_2_code 259 = .ok (.iconst 0, 1) := by decide +kernel
theorem dX5_readStatement_260 : decode prog_7_method_2_code 260 = .ok (.ireturn, 1) := by decide +kernel
theorem dX5_readNumbers_0 : decode prog_7_method_3_code 0 = .ok (.iconst 0, 1) := by decide +kernel
theorem dX5_readNumbers_1 : decode prog_7_method_3_code 1 = .ok (.istore_n 3, 1) := by decide +kernel
theorem dX5_readNumbers_2 : decode prog_7_method_3_code 2 = .ok (.iload_n 3, 1) := by decide +kernel
theorem dX5_readNumbers_3 : decode prog_7_method_3_code 3 = .ok (.iload_n 2, 1) := by decide +kernel
theorem dX5_readNumbers_4 : decode prog_7_method_3_code 4 = .ok (.if_icmp .ge 55, 3) := by decide +kernel
theorem dX5_readNumbers_7 : decode prog_7_method_3_code 7 = .ok (.aload_n 1, 1) := by decide +kernel
theorem dX5_readNumbers_8 : decode prog_7_method_3_code 8 = .ok (.getfield 55, 3) := by decide +kernel
theorem dX5_readNumbers_11 : decode prog_7_method_3_code 11 = .ok (.iconst 2, 1) := by decide +kernel
theorem dX5_readNumbers_12 : decode prog_7_method_3_code 12 = .ok (.if_icmp .ne 12, 3) := by decide +kernel
theorem dX5_readNumbers_15 : decode prog_7_method_3_code 15 = .ok (.aload_n 0, 1) := by decide +kernel
theorem dX5_readNumbers_16 : decode prog_7_method_3_code 16 = .ok (.getfield 22, 3) := by decide +kernel
theorem dX5_readNumbers_19 : decode prog_7_method_3_code 19 = .ok (.bipush 6, 2) := by decide +kernel
theorem dX5_readNumbers_21 : decode prog_7_method_3_code 21 = .ok (.if_icmp .lt 5, 3) := by decide +kernel
theorem dX5_readNumbers_24 : decode prog_7_method_3_code 24 = .ok (.iconst 0, 1) := by decide +kernel
theorem dX5_readNumbers_25 : decode prog_7_method_3_code 25 = .ok (.ireturn, 1) := by decide +kernel
theorem dX5_readNumbers_26 : decode prog_7_method_3_code 26 = .ok (.aload_n 0, 1) := by decide +kernel
theorem dX5_readNumbers_27 : decode prog_7_method_3_code 27 = .ok (.getfield 11, 3) := by decide +kernel
theorem dX5_readNumbers_30 : decode prog_7_method_3_code 30 = .ok (.aload_n 0, 1) := by decide +kernel
theorem dX5_readNumbers_31 : decode prog_7_method_3_code 31 = .ok (.getfield 22, 3) := by decide +kernel
theorem dX5_readNumbers_34 : decode prog_7_method_3_code 34 = .ok (.aload_n 1, 1) := by decide +kernel
theorem dX5_readNumbers_35 : decode prog_7_method_3_code 35 = .ok (.getfield 58, 3) := by decide +kernel
theorem dX5_readNumbers_38 : decode prog_7_method_3_code 38 = .ok (.iastore, 1) := by decide +kernel
theorem dX5_readNumbers_39 : decode prog_7_method_3_code 39 = .ok (.aload_n 0, 1) := by decide +kernel
theorem dX5_readNumbers_40 : decode prog_7_method_3_code 40 = .ok (.dup, 1) := by decide +kernel
theorem dX5_readNumbers_41 : decode prog_7_method_3_code 41 = .ok (.getfield 22, 3) := by decide +kernel
theorem dX5_readNumbers_44 : decode prog_7_method_3_code 44 = .ok (.iconst 1, 1) := by decide +kernel
theorem dX5_readNumbers_45 : decode prog_7_method_3_code 45 = .ok (.iadd, 1) := by decide +kernel
theorem dX5_readNumbers_46 : decode prog_7_method_3_code 46 = .ok (.putfield 22, 3) := by decide +kernel
theorem dX5_readNumbers_49 : decode prog_7_method_3_code 49 = .ok (.aload_n 1, 1) := by decide +kernel
theorem dX5_readNumbers_50 : decode prog_7_method_3_code 50 = .ok (.invokevirtual 61, 3) := by decide +kernel
theorem dX5_readNumbers_53 : decode prog_7_method_3_code 53 = .ok (.iinc 3 1, 3) := by decide +kernel
theorem dX5_readNumbers_56 : decode prog_7_method_3_code 56 = .ok (.goto (-54), 3) := by decide +kernel
theorem dX5_readNumbers_59 : decode prog_7_method_3_code 59 = .ok (.iconst 1, 1) := by decide +kernel
theorem dX5_readNumbers_60 : decode prog_7_method_3_code 60 = .ok (.ireturn, 1) := by decide +kernel
theorem dX5_readFillKind_0 : decode prog_7_method_4_code 0 = .ok (.aload_n 0, 1) := by decide +kernel
theorem dX5_readFillKind_1 : decode prog_7_method_4_code 1 = .ok (.aload_n 1, 1) := by decide +kernel
theorem dX5_readFillKind_2 : decode prog_7_method_4_code 2 = .ok (.ldc 64, 2) := by decide +kernel
theorem dX5_readFillKind_4 : decode prog_7_method_4_code 4 = .ok (.invokevirtual 28, 3) := by decide +kernel
theorem dX5_readFillKind_7 : decode prog_7_method_4_code 7 = .ok (.putfield 66, 3) := by decide +kernel
theorem dX5_readFillKind_10 : decode prog_7_method_4_code 10 = .ok (.aload_n 0, 1) := by decide +kernel
theorem dX5_readFillKind_11 : decode prog_7_method_4_code 11 = .ok (.getfield 66, 3) := by decide +kernel
theorem dX5_readFillKind_14 : decode prog_7_method_4_code 14 = .ok (.ifCond .lt 7, 3) := by decide +kernel
theorem dX5_readFillKind_17 : decode prog_7_method_4_code 17 = .ok (.iconst 1, 1) := by decide +kernel
theorem dX5_readFillKind_18 : decode prog_7_method_4_code 18 = .ok (.goto 4, 3) := by decide +kernel
theorem dX5_readFillKind_21 : decode prog_7_method_4_code 21 = .ok (.iconst 0, 1) := by decide +kernel
theorem dX5_readFillKind_22 : decode prog_7_method_4_code 22 = .ok (.ireturn, 1) := by decide +kernel
theorem dX5_readRelation_0 : decode prog_7_method_5_code 0 = .ok (.aload_n 0, 1) := by decide +kernel
theorem dX5_readRelation_1 : decode prog_7_method_5_code 1 = .ok (.aload_n 1, 1) := by decide +kernel
theorem dX5_readRelation_2 : decode prog_7_method_5_code 2 = .ok (.ldc 69, 2) := by decide +kernel
theorem dX5_readRelation_4 : decode prog_7_method_5_code 4 = .ok (.invokevirtual 28, 3) := by decide +kernel
theorem dX5_readRelation_7 : decode prog_7_method_5_code 7 = .ok (.putfield 71, 3) := by decide +kernel
theorem dX5_readRelation_10 : decode prog_7_method_5_code 10 = .ok (.aload_n 0, 1) := by decide +kernel
theorem dX5_readRelation_11 : decode prog_7_method_5_code 11 = .ok (.getfield 71, 3) := by decide +kernel
theorem dX5_readRelation_14 : decode prog_7_method_5_code 14 = .ok (.ifCond .lt 7, 3) := by decide +kernel
theorem dX5_readRelation_17 : decode prog_7_method_5_code 17 = .ok (.iconst 1, 1) := by decide +kernel
theorem dX5_readRelation_18 : decode prog_7_method_5_code 18 = .ok (.goto 4, 3) := by decide +kernel
theorem dX5_readRelation_21 : decode prog_7_method_5_code 21 = .ok (.iconst 0, 1) := by decide +kernel
theorem dX5_readRelation_22 : decode prog_7_method_5_code 22 = .ok (.ireturn, 1) := by decide +kernel
theorem dX5_readShape_0 : decode prog_7_method_6_code 0 = .ok (.aload_n 1, 1) := by decide +kernel
theorem dX5_readShape_1 : decode prog_7_method_6_code 1 = .ok (.ldc 74, 2) := by decide +kernel
theorem dX5_readShape_3 : decode prog_7_method_6_code 3 = .ok (.invokevirtual 28, 3) := by decide +kernel
theorem dX5_readShape_6 : decode prog_7_method_6_code 6 = .ok (.istore_n 2, 1) := by decide +kernel
theorem dX5_readShape_7 : decode prog_7_method_6_code 7 = .ok (.iload_n 2, 1) := by decide +kernel
theorem dX5_readShape_8 : decode prog_7_method_6_code 8 = .ok (.ifCond .ge 5, 3) := by decide +kernel
theorem dX5_readShape_11 : decode prog_7_method_6_code 11 = .ok (.iconst 0, 1) := by decide +kernel
theorem dX5_readShape_12 : decode prog_7_method_6_code 12 = .ok (.ireturn, 1) := by decide +kernel
theorem dX5_readShape_13 : decode prog_7_method_6_code 13 = .ok (.aload_n 0, 1) := by decide +kernel
theorem dX5_readShape_14 : decode prog_7_method_6_code 14 = .ok (.getfield 18, 3) := by decide +kernel
theorem dX5_readShape_17 : decode prog_7_method_6_code 17 = .ok (.iload_n 2, 1) := by decide +kernel
theorem dX5_readShape_18 : decode prog_7_method_6_code 18 = .ok (.invokevirtual 76, 3) := by decide +kernel
theorem dX5_readShape_21 : decode prog_7_method_6_code 21 = .ok (.iload_n 2, 1) := by decide +kernel
theorem dX5_readShape_22 : decode prog_7_method_6_code 22 = .ok (.iconst 2, 1) := by decide +kernel
theorem dX5_readShape_23 : decode prog_7_method_6_code 23 = .ok (.if_icmp .ne 11, 3) := by decide +kernel
theorem dX5_readShape_26 : decode prog_7_method_6_code 26 = .ok (.aload_n 0, 1) := by decide +kernel
theorem dX5_readShape_27 : decode prog_7_method_6_code 27 = .ok (.aload_n 1, 1) := by decide +kernel
theorem dX5_readShape_28 : decode prog_7_method_6_code 28 = .ok (.invokevirtual 80, 3) := by decide +kernel
theorem dX5_readShape_31 : decode prog_7_method_6_code 31 = .ok (.goto 19, 3) := by decide +kernel
theorem dX5_readShape_34 : decode prog_7_method_6_code 34 = .ok (.aload_n 0, 1) := by decide +kernel
theorem dX5_readShape_35 : decode prog_7_method_6_code 35 = .ok (.aload_n 1, 1) := by decide +kernel
theorem dX5_readShape_36 : decode prog_7_method_6_code 36 = .ok (.iload_n 2, 1) := by decide +kernel
theorem dX5_readShape_37 : decode prog_7_method_6_code 37 = .ok (.ifCond .ne 7, 3) := by decide +kernel
theorem dX5_readShape_40 : decode prog_7_method_6_code 40 = .ok (.iconst 1, 1) := by decide +kernel
theorem dX5_readShape_41 : decode prog_7_method_6_code 41 = .ok (.goto 6, 3) := by decide +kernel
theorem dX5_readShape_44 : decode prog_7_method_6_code 44 = .ok (.sipush 4000, 3) := by decide +kernel
theorem dX5_readShape_47 : decode prog_7_method_6_code 47 = .ok (.invokevirtual 83, 3) := by decide +kernel
theorem dX5_readShape_50 : decode prog_7_method_6_code 50 = .ok (.istore_n 3, 1) := by decide +kernel
theorem dX5_readShape_51 : decode prog_7_method_6_code 51 = .ok (.aload_n 0, 1) := by decide +kernel
theorem dX5_readShape_52 : decode prog_7_method_6_code 52 = .ok (.getfield 18, 3) := by decide +kernel
theorem dX5_readShape_55 : decode prog_7_method_6_code 55 = .ok (.invokevirtual 86, 3) := by decide +kernel
theorem dX5_readShape_58 : decode prog_7_method_6_code 58 = .ok (.iload_n 3, 1) := by decide +kernel
theorem dX5_readShape_59 : decode prog_7_method_6_code 59 = .ok (.ireturn, 1) := by decide +kernel
theorem dX5_readRings_0 : decode prog_7_method_7_code 0 = .ok (.aload_n 1, 1) := by decide +kernel
theorem dX5_readRings_1 : decode prog_7_method_7_code 1 = .ok (.bipush 40, 2) := by decide +kernel
theorem dX5_readRings_3 : decode prog_7_method_7_code 3 = .ok (.invokevirtual 51, 3) := by decide +kernel
theorem dX5_readRings_6 : decode prog_7_method_7_code 6 = .ok (.ifCond .ne 5, 3) := by decide +kernel
theorem dX5_readRings_9 : decode prog_7_method_7_code 9 = .ok (.iconst 0, 1) := by decide +kernel
theorem dX5_readRings_10 : decode prog_7_method_7_code 10 = .ok (.ireturn, 1) := by decide +kernel
theorem dX5_readRings_11 : decode prog_7_method_7_code 11 = .ok (.iconst 0, 1) := by decide +kernel
theorem dX5_readRings_12 : decode prog_7_method_7_code 12 = .ok (.istore_n 2, 1) := by decide +kernel
theorem dX5_readRings_13 : decode prog_7_method_7_code 13 = .ok (.iload_n 2, 1) := by decide +kernel
theorem dX5_readRings_14 : decode prog_7_method_7_code 14 = .ok (.sipush 4000, 3) := by decide +kernel
theorem dX5_readRings_17 : decode prog_7_method_7_code 17 = .ok (.if_icmp .ge 34, 3) := by decide +kernel
theorem dX5_readRings_20 : decode prog_7_method_7_code 20 = .ok (.aload_n 0, 1) := by decide +kernel
theorem dX5_readRings_21 : decode prog_7_method_7_code 21 = .ok (.aload_n 1, 1) := by decide +kernel
theorem dX5_readRings_22 : decode prog_7_method_7_code 22 = .ok (.sipush 4000, 3) := by decide +kernel
theorem dX5_readRings_25 : decode prog_7_method_7_code 25 = .ok (.invokevirtual 83, 3) := by decide +kernel
theorem dX5_readRings_28 : decode prog_7_method_7_code 28 = .ok (.ifCond .ne 5, 3) := by decide +kernel
theorem dX5_readRings_31 : decode prog_7_method_7_code 31 = .ok (.iconst 0, 1) := by decide +kernel
theorem dX5_readRings_32 : decode prog_7_method_7_code 32 = .ok (.ireturn, 1) := by decide +kernel
theorem dX5_readRings_33 : decode prog_7_method_7_code 33 = .ok (.aload_n 1, 1) := by decide +kernel
theorem dX5_readRings_34 : decode prog_7_method_7_code 34 = .ok (.bipush 44, 2) := by decide +kernel
theorem dX5_readRings_36 : decode prog_7_method_7_code 36 = .ok (.invokevirtual 51, 3) := by decide +kernel
theorem dX5_readRings_39 : decode prog_7_method_7_code 39 = .ok (.ifCond .ne 6, 3) := by decide +kernel
theorem dX5_readRings_42 : decode prog_7_method_7_code 42 = .ok (.goto 9, 3) := by decide +kernel
theorem dX5_readRings_45 : decode prog_7_method_7_code 45 = .ok (.iinc 2 1, 3) := by decide +kernel
theorem dX5_readRings_48 : decode prog_7_method_7_code 48 = .ok (.goto (-35), 3) := by decide +kernel
theorem dX5_readRings_51 : decode prog_7_method_7_code 51 = .ok (.aload_n 1, 1) := by decide +kernel
theorem dX5_readRings_52 : decode prog_7_method_7_code 52 = .ok (.bipush 41, 2) := by decide +kernel
theorem dX5_readRings_54 : decode prog_7_method_7_code 54 = .ok (.invokevirtual 51, 3) := by decide +kernel
theorem dX5_readRings_57 : decode prog_7_method_7_code 57 = .ok (.ireturn, 1) := by decide +kernel
theorem dX5_readRing_0 : decode prog_7_method_8_code 0 = .ok (.aload_n 1, 1) := by decide +kernel
theorem dX5_readRing_1 : decode prog_7_method_8_code 1 = .ok (.bipush 40, 2) := by decide +kernel
theorem dX5_readRing_3 : decode prog_7_method_8_code 3 = .ok (.invokevirtual 51, 3) := by decide +kernel
theorem dX5_readRing_6 : decode prog_7_method_8_code 6 = .ok (.ifCond .ne 5, 3) := by decide +kernel
theorem dX5_readRing_9 : decode prog_7_method_8_code 9 = .ok (.iconst 0, 1) := by decide +kernel
theorem dX5_readRing_10 : decode prog_7_method_8_code 10 = .ok (.ireturn, 1) := by decide +kernel
theorem dX5_readRing_11 : decode prog_7_method_8_code 11 = .ok (.iconst 0, 1) := by decide +kernel
theorem dX5_readRing_12 : decode prog_7_method_8_code 12 = .ok (.istore_n 3, 1) := by decide +kernel
theorem dX5_readRing_13 : decode prog_7_method_8_code 13 = .ok (.iload_n 3, 1) := by decide +kernel
theorem dX5_readRing_14 : decode prog_7_method_8_code 14 = .ok (.iload_n 2, 1) := by decide +kernel
theorem dX5_readRing_15 : decode prog_7_method_8_code 15 = .ok (.if_icmp .ge 38, 3) := by decide +kernel
theorem dX5_readRing_18 : decode prog_7_method_8_code 18 = .ok (.aload_n 0, 1) := by decide +kernel
theorem dX5_readRing_19 : decode prog_7_method_8_code 19 = .ok (.aload_n 1, 1) := by decide +kernel
theorem dX5_readRing_20 : decode prog_7_method_8_code 20 = .ok (.invokevirtual 89, 3) := by decide +kernel
theorem dX5_readRing_23 : decode prog_7_method_8_code 23 = .ok (.ifCond .ne 5, 3) := by decide +kernel
theorem dX5_readRing_26 : decode prog_7_method_8_code 26 = .ok (.iconst 0, 1) := by decide +kernel
theorem dX5_readRing_27 : decode prog_7_method_8_code 27 = .ok (.ireturn, 1) := by decide +kernel
theorem dX5_readRing_28 : decode prog_7_method_8_code 28 = .ok (.iload_n 3, 1) := by decide +kernel
theorem dX5_readRing_29 : decode prog_7_method_8_code 29 = .ok (.iconst 1, 1) := by decide +kernel
theorem dX5_readRing_30 : decode prog_7_method_8_code 30 = .ok (.iadd, 1) := by decide +kernel
theorem dX5_readRing_31 : decode prog_7_method_8_code 31 = .ok (.iload_n 2, 1) := by decide +kernel
theorem dX5_readRing_32 : decode prog_7_method_8_code 32 = .ok (.if_icmp .eq 21, 3) := by decide +kernel
theorem dX5_readRing_35 : decode prog_7_method_8_code 35 = .ok (.aload_n 1, 1) := by decide +kernel
theorem dX5_readRing_36 : decode prog_7_method_8_code 36 = .ok (.bipush 44, 2) := by decide +kernel
theorem dX5_readRing_38 : decode prog_7_method_8_code 38 = .ok (.invokevirtual 51, 3) := by decide +kernel
theorem dX5_readRing_41 : decode prog_7_method_8_code 41 = .ok (.ifCond .ne 6, 3) := by decide +kernel
theorem dX5_readRing_44 : decode prog_7_method_8_code 44 = .ok (.goto 9, 3) := by decide +kernel
theorem dX5_readRing_47 : decode prog_7_method_8_code 47 = .ok (.iinc 3 1, 3) := by decide +kernel
theorem dX5_readRing_50 : decode prog_7_method_8_code 50 = .ok (.goto (-37), 3) := by decide +kernel
theorem dX5_readRing_53 : decode prog_7_method_8_code 53 = .ok (.aload_n 0, 1) := by decide +kernel
theorem dX5_readRing_54 : decode prog_7_method_8_code 54 = .ok (.getfield 18, 3) := by decide +kernel
theorem dX5_readRing_57 : decode prog_7_method_8_code 57 = .ok (.invokevirtual 92, 3) := by decide +kernel
theorem dX5_readRing_60 : decode prog_7_method_8_code 60 = .ok (.aload_n 1, 1) := by decide +kernel
theorem dX5_readRing_61 : decode prog_7_method_8_code 61 = .ok (.bipush 41, 2) := by decide +kernel
theorem dX5_readRing_63 : decode prog_7_method_8_code 63 = .ok (.invokevirtual 51, 3) := by decide +kernel
theorem dX5_readRing_66 : decode prog_7_method_8_code 66 = .ok (.ireturn, 1) := by decide +kernel
theorem dX5_readPlace_0 : decode prog_7_method_9_code 0 = .ok (.aload_n 1, 1) := by decide +kernel
theorem dX5_readPlace_1 : decode prog_7_method_9_code 1 = .ok (.getfield 55, 3) := by decide +kernel
theorem dX5_readPlace_4 : decode prog_7_method_9_code 4 = .ok (.iconst 2, 1) := by decide +kernel
theorem dX5_readPlace_5 : decode prog_7_method_9_code 5 = .ok (.if_icmp .eq 5, 3) := by decide +kernel
theorem dX5_readPlace_8 : decode prog_7_method_9_code 8 = .ok (.iconst 0, 1) := by decide +kernel
theorem dX5_readPlace_9 : decode prog_7_method_9_code 9 = .ok (.ireturn, 1) := by decide +kernel
theorem dX5_readPlace_10 : decode prog_7_method_9_code 10 = .ok (.aload_n 1, 1) := by decide +kernel
theorem dX5_readPlace_11 : decode prog_7_method_9_code 11 = .ok (.getfield 58, 3) := by decide +kernel
theorem dX5_readPlace_14 : decode prog_7_method_9_code 14 = .ok (.istore_n 2, 1) := by decide +kernel
theorem dX5_readPlace_15 : decode prog_7_method_9_code 15 = .ok (.aload_n 1, 1) := by decide +kernel
theorem dX5_readPlace_16 : decode prog_7_method_9_code 16 = .ok (.invokevirtual 61, 3) := by decide +kernel
theorem dX5_readPlace_19 : decode prog_7_method_9_code 19 = .ok (.aload_n 1, 1) := by decide +kernel
theorem dX5_readPlace_20 : decode prog_7_method_9_code 20 = .ok (.getfield 55, 3) := by decide +kernel
theorem dX5_readPlace_23 : decode prog_7_method_9_code 23 = .ok (.iconst 2, 1) := by decide +kernel
theorem dX5_readPlace_24 : decode prog_7_method_9_code 24 = .ok (.if_icmp .eq 5, 3) := by decide +kernel
theorem dX5_readPlace_27 : decode prog_7_method_9_code 27 = .ok (.iconst 0, 1) := by decide +kernel
theorem dX5_readPlace_28 : decode prog_7_method_9_code 28 = .ok (.ireturn, 1) := by decide +kernel
theorem dX5_readPlace_29 : decode prog_7_method_9_code 29 = .ok (.aload_n 0, 1) := by decide +kernel
theorem dX5_readPlace_30 : decode prog_7_method_9_code 30 = .ok (.getfield 18, 3) := by decide +kernel
theorem dX5_readPlace_33 : decode prog_7_method_9_code 33 = .ok (.iload_n 2, 1) := by decide +kernel
theorem dX5_readPlace_34 : decode prog_7_method_9_code 34 = .ok (.aload_n 1, 1) := by decide +kernel
theorem dX5_readPlace_35 : decode prog_7_method_9_code 35 = .ok (.getfield 58, 3) := by decide +kernel
theorem dX5_readPlace_38 : decode prog_7_method_9_code 38 = .ok (.invokevirtual 95, 3) := by decide +kernel
theorem dX5_readPlace_41 : decode prog_7_method_9_code 41 = .ok (.aload_n 1, 1) := by decide +kernel
theorem dX5_readPlace_42 : decode prog_7_method_9_code 42 = .ok (.invokevirtual 61, 3) := by decide +kernel
theorem dX5_readPlace_45 : decode prog_7_method_9_code 45 = .ok (.iconst 1, 1) := by decide +kernel
theorem dX5_readPlace_46 : decode prog_7_method_9_code 46 = .ok (.ireturn, 1) := by decide +kernel
theorem dX6_init_0 : decode prog_8_method_1_code 0 = .ok (.aload_n 0, 1) := by decide +kernel
theorem dX6_init_1 : decode prog_8_method_1_code 1 = .ok (.invokespecial 3, 3) := by decide +kernel
theorem dX6_init_4 : decode prog_8_method_1_code 4 = .ok (.aload_n 0, 1) := by decide +kernel
theorem dX6_init_5 : decode prog_8_method_1_code 5 = .ok (.aload_n 1, 1) := by decide +kernel
theorem dX6_init_6 : decode prog_8_method_1_code 6 = .ok (.putfield 9, 3) := by decide +kernel
theorem dX6_init_9 : decode prog_8_method_1_code 9 = .ok (.return_, 1) := by decide +kernel
theorem dX6_holds_0 : decode prog_8_method_2_code 0 = .ok (.iload_n 1, 1) := by decide +kernel
theorem dX6_holds_1 : decode prog_8_method_2_code 1 = .ok (.tableswitch 95 0 4 #[35, 42, 57, 81, 88], 35) := by decide +kernel
theorem dX6_holds_36 : decode prog_8_method_2_code 36 = .ok (.aload_n 0, 1) := by decide +kernel
theorem dX6_holds_37 : decode prog_8_method_2_code 37 = .ok (.aload_n 2, 1) := by decide +kernel
theorem dX6_holds_38 : decode prog_8_method_2_code 38 = .ok (.aload_n 3, 1) := by decide +kernel
theorem dX6_holds_39 : decode prog_8_method_2_code 39 = .ok (.invokevirtual 15, 3) := by decide +kernel
theorem dX6_holds_42 : decode prog_8_method_2_code 42 = .ok (.ireturn, 1) := by decide +kernel
theorem dX6_holds_43 : decode prog_8_method_2_code 43 = .ok (.aload_n 0, 1) := by decide +kernel
theorem dX6_holds_44 : decode prog_8_method_2_code 44 = .ok (.aload_n 2, 1) := by decide +kernel
theorem dX6_holds_45 : decode prog_8_method_2_code 45 = .ok (.aload_n 3, 1) := by decide +kernel
theorem dX6_holds_46 : decode prog_8_method_2_code 46 = .ok (.invokevirtual 15, 3) := by decide +kernel
theorem dX6_holds_49 : decode prog_8_method_2_code 49 = .ok (.ifCond .ne 7, 3) := by decide +kernel
theorem dX6_holds_52 : decode prog_8_method_2_code 52 = .ok (.iconst 1, 1) := by decide +kernel
theorem dX6_holds_53 : decode prog_8_method_2_code 53 = .ok (.goto 4, 3) := by decide +kernel
theorem dX6_holds_56 : decode prog_8_method_2_code 56 = .ok (.iconst 0, 1) := by decide +kernel
theorem dX6_holds_57 : decode prog_8_method_2_code 57 = .ok (.ireturn, 1) := by decide +kernel
theorem dX6_holds_58 : decode prog_8_method_2_code 58 = .ok (.aload_n 0, 1) := by decide +kernel
theorem dX6_holds_59 : decode prog_8_method_2_code 59 = .ok (.aload_n 2, 1) := by decide +kernel
theorem dX6_holds_60 : decode prog_8_method_2_code 60 = .ok (.aload_n 3, 1) := by decide +kernel
theorem dX6_holds_61 : decode prog_8_method_2_code 61 = .ok (.invokevirtual 15, 3) := by decide +kernel
theorem dX6_holds_64 : decode prog_8_method_2_code 64 = .ok (.ifCond .eq 16, 3) := by decide +kernel
theorem dX6_holds_67 : decode prog_8_method_2_code 67 = .ok (.aload_n 0, 1) := by decide +kernel
theorem dX6_holds_68 : decode prog_8_method_2_code 68 = .ok (.aload_n 2, 1) := by decide +kernel
theorem dX6_holds_69 : decode prog_8_method_2_code 69 = .ok (.aload_n 3, 1) := by decide +kernel
theorem dX6_holds_70 : decode prog_8_method_2_code 70 = .ok (.invokevirtual 19, 3) := by decide +kernel
theorem dX6_holds_73 : decode prog_8_method_2_code 73 = .ok (.ifCond .ne 7, 3) := by decide +kernel
theorem dX6_holds_76 : decode prog_8_method_2_code 76 = .ok (.iconst 1, 1) := by decide +kernel
theorem dX6_holds_77 : decode prog_8_method_2_code 77 = .ok (.goto 4, 3) := by decide +kernel
theorem dX6_holds_80 : decode prog_8_method_2_code 80 = .ok (.iconst 0, 1) := by decide +kernel
theorem dX6_holds_81 : decode prog_8_method_2_code 81 = .ok (.ireturn, 1) := by decide +kernel
theorem dX6_holds_82 : decode prog_8_method_2_code 82 = .ok (.aload_n 0, 1) := by decide +kernel
theorem dX6_holds_83 : decode prog_8_method_2_code 83 = .ok (.aload_n 2, 1) := by decide +kernel
theorem dX6_holds_84 : decode prog_8_method_2_code 84 = .ok (.aload_n 3, 1) := by decide +kernel
theorem dX6_holds_85 : decode prog_8_method_2_code 85 = .ok (.invokevirtual 22, 3) := by decide +kernel
theorem dX6_holds_88 : decode prog_8_method_2_code 88 = .ok (.ireturn, 1) := by decide +kernel
theorem dX6_holds_89 : decode prog_8_method_2_code 89 = .ok (.aload_n 0, 1) := by decide +kernel
theorem dX6_holds_90 : decode prog_8_method_2_code 90 = .ok (.aload_n 3, 1) := by decide +kernel
theorem dX6_holds_91 : decode prog_8_method_2_code 91 = .ok (.aload_n 2, 1) := by decide +kernel
theorem dX6_holds_92 : decode prog_8_method_2_code 92 = .ok (.invokevirtual 22, 3) := by decide +kernel
theorem dX6_holds_95 : decode prog_8_method_2_code 95 = .ok (.ireturn, 1) := by decide +kernel
theorem dX6_holds_96 : decode prog_8_method_2_code 96 = .ok (.iconst 0, 1) := by decide +kernel
theorem dX6_holds_97 : decode prog_8_method_2_code 97 = .ok (.ireturn, 1) := by decide +kernel
theorem dX6_doMeet_0 : decode prog_8_method_3_code 0 = .ok (.aload_n 1, 1) := by decide +kernel
theorem dX6_doMeet_1 : decode prog_8_method_3_code 1 = .ok (.aload_n 2, 1) := by decide +kernel
theorem dX6_doMeet_2 : decode prog_8_method_3_code 2 = .ok (.invokevirtual 25, 3) := by decide +kernel
theorem dX6_doMeet_5 : decode prog_8_method_3_code 5 = .ok (.ifCond .eq 5, 3) := by decide +kernel
theorem dX6_doMeet_8 : decode prog_8_method_3_code 8 = .ok (.iconst 0, 1) := by decide +kernel
theorem dX6_doMeet_9 : decode prog_8_method_3_code 9 = .ok (.ireturn, 1) := by decide +kernel
theorem dX6_doMeet_10 : decode prog_8_method_3_code 10 = .ok (.aload_n 1, 1) := by decide +kernel
theorem dX6_doMeet_11 : decode prog_8_method_3_code 11 = .ok (.getfield 31, 3) := by decide +kernel
theorem dX6_doMeet_14 : decode prog_8_method_3_code 14 = .ok (.aload_n 2, 1) := by decide +kernel
theorem dX6_doMeet_15 : decode prog_8_method_3_code 15 = .ok (.getfield 31, 3) := by decide +kernel
theorem dX6_doMeet_18 : decode prog_8_method_3_code 18 = .ok (.if_icmp .gt 7, 3) := by decide +kernel
theorem dX6_doMeet_21 : decode prog_8_method_3_code 21 = .ok (.aload_n 1, 1) := by decide +kernel
theorem dX6_doMeet_22 : decode prog_8_method_3_code 22 = .ok (.goto 4, 3) := by decide +kernel
theorem dX6_doMeet_25 : decode prog_8_method_3_code 25 = .ok (.aload_n 2, 1) := by decide +kernel
theorem dX6_doMeet_26 : decode prog_8_method_3_code 26 = .ok (.astore_n 3, 1) := by decide +kernel
theorem dX6_doMeet_27 : decode prog_8_method_3_code 27 = .ok (.aload_n 1, 1) := by decide +kernel
theorem dX6_doMeet_28 : decode prog_8_method_3_code 28 = .ok (.getfield 31, 3) := by decide +kernel
theorem dX6_doMeet_31 : decode prog_8_method_3_code 31 = .ok (.aload_n 2, 1) := by decide +kernel
theorem dX6_doMeet_32 : decode prog_8_method_3_code 32 = .ok (.getfield 31, 3) := by decide +kernel
theorem dX6_doMeet_35 : decode prog_8_method_3_code 35 = .ok (.if_icmp .gt 7, 3) := by decide +kernel
theorem dX6_doMeet_38 : decode prog_8_method_3_code 38 = .ok (.aload_n 2, 1) := by decide +kernel
theorem dX6_doMeet_39 : decode prog_8_method_3_code 39 = .ok (.goto 4, 3) := by decide +kernel
theorem dX6_doMeet_42 : decode prog_8_method_3_code 42 = .ok (.aload_n 1, 1) := by decide +kernel
theorem dX6_doMeet_43 : decode prog_8_method_3_code 43 = .ok (.astore 4, 2) := by decide +kernel
theorem dX6_doMeet_45 : decode prog_8_method_3_code 45 = .ok (.aload_n 3, 1) := by decide +kernel
theorem dX6_doMeet_46 : decode prog_8_method_3_code 46 = .ok (.getfield 31, 3) := by decide +kernel
theorem dX6_doMeet_49 : decode prog_8_method_3_code 49 = .ok (.ifCond .ne 29, 3) := by decide +kernel
theorem dX6_doMeet_52 : decode prog_8_method_3_code 52 = .ok (.aload 4, 2) := by decide +kernel
theorem dX6_doMeet_54 : decode prog_8_method_3_code 54 = .ok (.aload_n 3, 1) := by decide +kernel
theorem dX6_doMeet_55 : decode prog_8_method_3_code 55 = .ok (.getfield 35, 3) := by decide +kernel
theorem dX6_doMeet_58 : decode prog_8_method_3_code 58 = .ok (.iconst 0, 1) := by decide +kernel
theorem dX6_doMeet_59 : decode prog_8_method_3_code 59 = .ok (.iaload, 1) := by decide +kernel
theorem dX6_doMeet_60 : decode prog_8_method_3_code 60 = .ok (.aload_n 3, 1) := by decide +kernel
theorem dX6_doMeet_61 : decode prog_8_method_3_code 61 = .ok (.getfield 39, 3) := by decide +kernel
theorem dX6_doMeet_64 : decode prog_8_method_3_code 64 = .ok (.iconst 0, 1) := by decide +kernel
theorem dX6_doMeet_65 : decode prog_8_method_3_code 65 = .ok (.iaload, 1) := by decide +kernel
theorem dX6_doMeet_66 : decode prog_8_method_3_code 66 = .ok (.invokestatic 42, 3) := by decide +kernel
theorem dX6_doMeet_69 : decode prog_8_method_3_code 69 = .ok (.ifCond .lt 7, 3) := by decide +kernel
theorem dX6_doMeet_72 : decode prog_8_method_3_code 72 = .ok (.iconst 1, 1) := by decide +kernel
theorem dX6_doMeet_73 : decode prog_8_method_3_code 73 = .ok (.goto 4, 3) := by decide +kernel
theorem dX6_doMeet_76 : decode prog_8_method_3_code 76 = .ok (.iconst 0, 1) := by decide +kernel
theorem dX6_doMeet_77 : decode prog_8_method_3_code 77 = .ok (.ireturn, 1) := by decide +kernel
theorem dX6_doMeet_78 : decode prog_8_method_3_code 78 = .ok (.aload 4, 2) := by decide +kernel
theorem dX6_doMeet_80 : decode prog_8_method_3_code 80 = .ok (.getfield 31, 3) := by decide +kernel
theorem dX6_doMeet_83 : decode prog_8_method_3_code 83 = .ok (.iconst 1, 1) := by decide +kernel
theorem dX6_doMeet_84 : decode prog_8_method_3_code 84 = .ok (.if_icmp .ne 10, 3) := by decide +kernel
theorem dX6_doMeet_87 : decode prog_8_method_3_code 87 = .ok (.aload_n 3, 1) := by decide +kernel
theorem dX6_doMeet_88 : decode prog_8_method_3_code 88 = .ok (.aload 4, 2) := by decide +kernel
theorem dX6_doMeet_90 : decode prog_8_method_3_code 90 = .ok (.invokestatic 48, 3) := by decide +kernel
theorem dX6_doMeet_93 : decode prog_8_method_3_code 93 = .ok (.ireturn, 1) := by decide +kernel
theorem dX6_doMeet_94 : decode prog_8_method_3_code 94 = .ok (.bipush 13, 2) := by decide +kernel
theorem dX6_doMeet_96 : decode prog_8_method_3_code 96 = .ok (.istore 5, 2) := by decide +kernel
theorem dX6_doMeet_98 : decode prog_8_method_3_code 98 = .ok (.aload_n 0, 1) := by decide +kernel
theorem dX6_doMeet_99 : decode prog_8_method_3_code 99 = .ok (.getfield 9, 3) := by decide +kernel
theorem dX6_doMeet_102 : decode prog_8_method_3_code 102 = .ok (.aload 4, 2) := by decide +kernel
theorem dX6_doMeet_104 : decode prog_8_method_3_code 104 = .ok (.iconst 0, 1) := by decide +kernel
theorem dX6_doMeet_105 : decode prog_8_method_3_code 105 = .ok (.aload 4, 2) := by decide +kernel
theorem dX6_doMeet_107 : decode prog_8_method_3_code 107 = .ok (.getfield 53, 3) := by decide +kernel
theorem dX6_doMeet_110 : decode prog_8_method_3_code 110 = .ok (.invokevirtual 56, 3) := by decide +kernel
theorem dX6_doMeet_113 : decode prog_8_method_3_code 113 = .ok (.aload_n 0, 1) := by decide +kernel
theorem dX6_doMeet_114 : decode prog_8_method_3_code 114 = .ok (.getfield 9, 3) := by decide +kernel
theorem dX6_doMeet_117 : decode prog_8_method_3_code 117 = .ok (.aload_n 3, 1) := by decide +kernel
theorem dX6_doMeet_118 : decode prog_8_method_3_code 118 = .ok (.iconst 0, 1) := by decide +kernel
theorem dX6_doMeet_119 : decode prog_8_method_3_code 119 = .ok (.aload_n 3, 1) := by decide +kernel
theorem dX6_doMeet_120 : decode prog_8_method_3_code 120 = .ok (.getfield 53, 3) := by decide +kernel
theorem dX6_doMeet_123 : decode prog_8_method_3_code 123 = .ok (.iload 5, 2) := by decide +kernel
theorem dX6_doMeet_125 : decode prog_8_method_3_code 125 = .ok (.invokevirtual 60, 3) := by decide +kernel
theorem dX6_doMeet_128 : decode prog_8_method_3_code 128 = .ok (.iload 5, 2) := by decide +kernel
theorem dX6_doMeet_130 : decode prog_8_method_3_code 130 = .ok (.iand, 1) := by decide +kernel
theorem dX6_doMeet_131 : decode prog_8_method_3_code 131 = .ok (.ifCond .eq 5, 3) := by decide +kernel
theorem dX6_doMeet_134 : decode prog_8_method_3_code 134 = .ok (.iconst 1, 1) := by decide +kernel
theorem dX6_doMeet_135 : decode prog_8_method_3_code 135 = .ok (.ireturn, 1) := by decide +kernel
theorem dX6_doMeet_136 : decode prog_8_method_3_code 136 = .ok (.aload_n 3, 1) := by decide +kernel
theorem dX6_doMeet_137 : decode prog_8_method_3_code 137 = .ok (.getfield 31, 3) := by decide +kernel
theorem dX6_doMeet_140 : decode prog_8_method_3_code 140 = .ok (.iconst 2, 1) := by decide +kernel
theorem dX6_doMeet_141 : decode prog_8_method_3_code 141 = .ok (.if_icmp .ne 28, 3) := by decide +kernel
theorem dX6_doMeet_144 : decode prog_8_method_3_code 144 = .ok (.aload_n 3, 1) := by decide +kernel
theorem dX6_doMeet_145 : decode prog_8_method_3_code 145 = .ok (.aload 4, 2) := by decide +kernel
theorem dX6_doMeet_147 : decode prog_8_method_3_code 147 = .ok (.getfield 35, 3) := by decide +kernel
theorem dX6_doMeet_150 : decode prog_8_method_3_code 150 = .ok (.iconst 0, 1) := by decide +kernel
theorem dX6_doMeet_151 : decode prog_8_method_3_code 151 = .ok (.iaload, 1) := by decide +kernel
theorem dX6_doMeet_152 : decode prog_8_method_3_code 152 = .ok (.aload 4, 2) := by decide +kernel
theorem dX6_doMeet_154 : decode prog_8_method_3_code 154 = .ok (.getfield 39, 3) := by decide +kernel
