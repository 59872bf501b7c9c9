theorem dX6_doMeet_157 : decode prog_8_method_3_code 157 = .ok (.iconst 0, 1) := by decide +kernel
theorem dX6_doMeet_158 : decode prog_8_method_3_code 158 = .ok (.iaload, 1) := by decide +kernel
theorem dX6_doMeet_159 : decode prog_8_method_3_code 159 = .ok (.invokestatic 42, 3) := by decide +kernel
theorem dX6_doMeet_162 : decode prog_8_method_3_code 162 = .ok (.ifCond .lt 7, 3) := by decide +kernel
theorem dX6_doMeet_165 : decode prog_8_method_3_code 165 = .ok (.iconst 1, 1) := by decide +kernel
theorem dX6_doMeet_166 : decode prog_8_method_3_code 166 = .ok (.goto 4, 3) := by decide +kernel
theorem dX6_doMeet_169 : decode prog_8_method_3_code 169 = .ok (.iconst 0, 1) := by decide +kernel
theorem dX6_doMeet_170 : decode prog_8_method_3_code 170 = .ok (.ireturn, 1) := by decide +kernel
theorem dX6_doLinesMeet_0 : decode prog_8_method_4_code 0 = .ok (.iconst 0, 1) := by decide +kernel
theorem dX6_doLinesMeet_1 : decode prog_8_method_4_code 1 = .ok (.istore_n 2, 1) := by decide +kernel
theorem dX6_doLinesMeet_2 : decode prog_8_method_4_code 2 = .ok (.iload_n 2, 1) := by decide +kernel
theorem dX6_doLinesMeet_3 : decode prog_8_method_4_code 3 = .ok (.iconst 1, 1) := by decide +kernel
theorem dX6_doLinesMeet_4 : decode prog_8_method_4_code 4 = .ok (.iadd, 1) := by decide +kernel
theorem dX6_doLinesMeet_5 : decode prog_8_method_4_code 5 = .ok (.aload_n 0, 1) := by decide +kernel
theorem dX6_doLinesMeet_6 : decode prog_8_method_4_code 6 = .ok (.getfield 53, 3) := by decide +kernel
theorem dX6_doLinesMeet_9 : decode prog_8_method_4_code 9 = .ok (.if_icmp .ge 39, 3) := by decide +kernel
theorem dX6_doLinesMeet_12 : decode prog_8_method_4_code 12 = .ok (.iconst 0, 1) := by decide +kernel
theorem dX6_doLinesMeet_13 : decode prog_8_method_4_code 13 = .ok (.istore_n 3, 1) := by decide +kernel
theorem dX6_doLinesMeet_14 : decode prog_8_method_4_code 14 = .ok (.iload_n 3, 1) := by decide +kernel
theorem dX6_doLinesMeet_15 : decode prog_8_method_4_code 15 = .ok (.iconst 1, 1) := by decide +kernel
theorem dX6_doLinesMeet_16 : decode prog_8_method_4_code 16 = .ok (.iadd, 1) := by decide +kernel
theorem dX6_doLinesMeet_17 : decode prog_8_method_4_code 17 = .ok (.aload_n 1, 1) := by decide +kernel
theorem dX6_doLinesMeet_18 : decode prog_8_method_4_code 18 = .ok (.getfield 53, 3) := by decide +kernel
theorem dX6_doLinesMeet_21 : decode prog_8_method_4_code 21 = .ok (.if_icmp .ge 21, 3) := by decide +kernel
theorem dX6_doLinesMeet_24 : decode prog_8_method_4_code 24 = .ok (.aload_n 0, 1) := by decide +kernel
theorem dX6_doLinesMeet_25 : decode prog_8_method_4_code 25 = .ok (.iload_n 2, 1) := by decide +kernel
theorem dX6_doLinesMeet_26 : decode prog_8_method_4_code 26 = .ok (.aload_n 1, 1) := by decide +kernel
theorem dX6_doLinesMeet_27 : decode prog_8_method_4_code 27 = .ok (.iload_n 3, 1) := by decide +kernel
theorem dX6_doLinesMeet_28 : decode prog_8_method_4_code 28 = .ok (.invokestatic 64, 3) := by decide +kernel
theorem dX6_doLinesMeet_31 : decode prog_8_method_4_code 31 = .ok (.ifCond .le 5, 3) := by decide +kernel
theorem dX6_doLinesMeet_34 : decode prog_8_method_4_code 34 = .ok (.iconst 1, 1) := by decide +kernel
theorem dX6_doLinesMeet_35 : decode prog_8_method_4_code 35 = .ok (.ireturn, 1) := by decide +kernel
theorem dX6_doLinesMeet_36 : decode prog_8_method_4_code 36 = .ok (.iinc 3 1, 3) := by decide +kernel
theorem dX6_doLinesMeet_39 : decode prog_8_method_4_code 39 = .ok (.goto (-25), 3) := by decide +kernel
theorem dX6_doLinesMeet_42 : decode prog_8_method_4_code 42 = .ok (.iinc 2 1, 3) := by decide +kernel
theorem dX6_doLinesMeet_45 : decode prog_8_method_4_code 45 = .ok (.goto (-43), 3) := by decide +kernel
theorem dX6_doLinesMeet_48 : decode prog_8_method_4_code 48 = .ok (.iconst 0, 1) := by decide +kernel
theorem dX6_doLinesMeet_49 : decode prog_8_method_4_code 49 = .ok (.ireturn, 1) := by decide +kernel
theorem dX6_doInteriorsMeet_0 : decode prog_8_method_5_code 0 = .ok (.aload_n 1, 1) := by decide +kernel
theorem dX6_doInteriorsMeet_1 : decode prog_8_method_5_code 1 = .ok (.getfield 31, 3) := by decide +kernel
theorem dX6_doInteriorsMeet_4 : decode prog_8_method_5_code 4 = .ok (.aload_n 2, 1) := by decide +kernel
theorem dX6_doInteriorsMeet_5 : decode prog_8_method_5_code 5 = .ok (.getfield 31, 3) := by decide +kernel
theorem dX6_doInteriorsMeet_8 : decode prog_8_method_5_code 8 = .ok (.if_icmp .gt 7, 3) := by decide +kernel
theorem dX6_doInteriorsMeet_11 : decode prog_8_method_5_code 11 = .ok (.aload_n 1, 1) := by decide +kernel
theorem dX6_doInteriorsMeet_12 : decode prog_8_method_5_code 12 = .ok (.goto 4, 3) := by decide +kernel
theorem dX6_doInteriorsMeet_15 : decode prog_8_method_5_code 15 = .ok (.aload_n 2, 1) := by decide +kernel
theorem dX6_doInteriorsMeet_16 : decode prog_8_method_5_code 16 = .ok (.astore_n 3, 1) := by decide +kernel
theorem dX6_doInteriorsMeet_17 : decode prog_8_method_5_code 17 = .ok (.aload_n 1, 1) := by decide +kernel
theorem dX6_doInteriorsMeet_18 : decode prog_8_method_5_code 18 = .ok (.getfield 31, 3) := by decide +kernel
theorem dX6_doInteriorsMeet_21 : decode prog_8_method_5_code 21 = .ok (.aload_n 2, 1) := by decide +kernel
theorem dX6_doInteriorsMeet_22 : decode prog_8_method_5_code 22 = .ok (.getfield 31, 3) := by decide +kernel
theorem dX6_doInteriorsMeet_25 : decode prog_8_method_5_code 25 = .ok (.if_icmp .gt 7, 3) := by decide +kernel
theorem dX6_doInteriorsMeet_28 : decode prog_8_method_5_code 28 = .ok (.aload_n 2, 1) := by decide +kernel
theorem dX6_doInteriorsMeet_29 : decode prog_8_method_5_code 29 = .ok (.goto 4, 3) := by decide +kernel
theorem dX6_doInteriorsMeet_32 : decode prog_8_method_5_code 32 = .ok (.aload_n 1, 1) := by decide +kernel
theorem dX6_doInteriorsMeet_33 : decode prog_8_method_5_code 33 = .ok (.astore 4, 2) := by decide +kernel
theorem dX6_doInteriorsMeet_35 : decode prog_8_method_5_code 35 = .ok (.aload_n 3, 1) := by decide +kernel
theorem dX6_doInteriorsMeet_36 : decode prog_8_method_5_code 36 = .ok (.getfield 31, 3) := by decide +kernel
theorem dX6_doInteriorsMeet_39 : decode prog_8_method_5_code 39 = .ok (.ifCond .ne 30, 3) := by decide +kernel
theorem dX6_doInteriorsMeet_42 : decode prog_8_method_5_code 42 = .ok (.aload 4, 2) := by decide +kernel
theorem dX6_doInteriorsMeet_44 : decode prog_8_method_5_code 44 = .ok (.aload_n 3, 1) := by decide +kernel
theorem dX6_doInteriorsMeet_45 : decode prog_8_method_5_code 45 = .ok (.getfield 35, 3) := by decide +kernel
theorem dX6_doInteriorsMeet_48 : decode prog_8_method_5_code 48 = .ok (.iconst 0, 1) := by decide +kernel
theorem dX6_doInteriorsMeet_49 : decode prog_8_method_5_code 49 = .ok (.iaload, 1) := by decide +kernel
theorem dX6_doInteriorsMeet_50 : decode prog_8_method_5_code 50 = .ok (.aload_n 3, 1) := by decide +kernel
theorem dX6_doInteriorsMeet_51 : decode prog_8_method_5_code 51 = .ok (.getfield 39, 3) := by decide +kernel
theorem dX6_doInteriorsMeet_54 : decode prog_8_method_5_code 54 = .ok (.iconst 0, 1) := by decide +kernel
theorem dX6_doInteriorsMeet_55 : decode prog_8_method_5_code 55 = .ok (.iaload, 1) := by decide +kernel
theorem dX6_doInteriorsMeet_56 : decode prog_8_method_5_code 56 = .ok (.invokestatic 42, 3) := by decide +kernel
theorem dX6_doInteriorsMeet_59 : decode prog_8_method_5_code 59 = .ok (.iconst 1, 1) := by decide +kernel
theorem dX6_doInteriorsMeet_60 : decode prog_8_method_5_code 60 = .ok (.if_icmp .ne 7, 3) := by decide +kernel
theorem dX6_doInteriorsMeet_63 : decode prog_8_method_5_code 63 = .ok (.iconst 1, 1) := by decide +kernel
theorem dX6_doInteriorsMeet_64 : decode prog_8_method_5_code 64 = .ok (.goto 4, 3) := by decide +kernel
theorem dX6_doInteriorsMeet_67 : decode prog_8_method_5_code 67 = .ok (.iconst 0, 1) := by decide +kernel
theorem dX6_doInteriorsMeet_68 : decode prog_8_method_5_code 68 = .ok (.ireturn, 1) := by decide +kernel
theorem dX6_doInteriorsMeet_69 : decode prog_8_method_5_code 69 = .ok (.aload 4, 2) := by decide +kernel
theorem dX6_doInteriorsMeet_71 : decode prog_8_method_5_code 71 = .ok (.getfield 31, 3) := by decide +kernel
theorem dX6_doInteriorsMeet_74 : decode prog_8_method_5_code 74 = .ok (.iconst 1, 1) := by decide +kernel
theorem dX6_doInteriorsMeet_75 : decode prog_8_method_5_code 75 = .ok (.if_icmp .ne 10, 3) := by decide +kernel
theorem dX6_doInteriorsMeet_78 : decode prog_8_method_5_code 78 = .ok (.aload_n 3, 1) := by decide +kernel
theorem dX6_doInteriorsMeet_79 : decode prog_8_method_5_code 79 = .ok (.aload 4, 2) := by decide +kernel
theorem dX6_doInteriorsMeet_81 : decode prog_8_method_5_code 81 = .ok (.invokestatic 68, 3) := by decide +kernel
theorem dX6_doInteriorsMeet_84 : decode prog_8_method_5_code 84 = .ok (.ireturn, 1) := by decide +kernel
theorem dX6_doInteriorsMeet_85 : decode prog_8_method_5_code 85 = .ok (.aload_n 0, 1) := by decide +kernel
theorem dX6_doInteriorsMeet_86 : decode prog_8_method_5_code 86 = .ok (.getfield 9, 3) := by decide +kernel
theorem dX6_doInteriorsMeet_89 : decode prog_8_method_5_code 89 = .ok (.aload 4, 2) := by decide +kernel
theorem dX6_doInteriorsMeet_91 : decode prog_8_method_5_code 91 = .ok (.iconst 0, 1) := by decide +kernel
theorem dX6_doInteriorsMeet_92 : decode prog_8_method_5_code 92 = .ok (.aload 4, 2) := by decide +kernel
theorem dX6_doInteriorsMeet_94 : decode prog_8_method_5_code 94 = .ok (.getfield 53, 3) := by decide +kernel
theorem dX6_doInteriorsMeet_97 : decode prog_8_method_5_code 97 = .ok (.invokevirtual 56, 3) := by decide +kernel
theorem dX6_doInteriorsMeet_100 : decode prog_8_method_5_code 100 = .ok (.aload_n 0, 1) := by decide +kernel
theorem dX6_doInteriorsMeet_101 : decode prog_8_method_5_code 101 = .ok (.getfield 9, 3) := by decide +kernel
theorem dX6_doInteriorsMeet_104 : decode prog_8_method_5_code 104 = .ok (.aload_n 3, 1) := by decide +kernel
theorem dX6_doInteriorsMeet_105 : decode prog_8_method_5_code 105 = .ok (.iconst 0, 1) := by decide +kernel
theorem dX6_doInteriorsMeet_106 : decode prog_8_method_5_code 106 = .ok (.aload_n 3, 1) := by decide +kernel
theorem dX6_doInteriorsMeet_107 : decode prog_8_method_5_code 107 = .ok (.getfield 53, 3) := by decide +kernel
theorem dX6_doInteriorsMeet_110 : decode prog_8_method_5_code 110 = .ok (.iconst 1, 1) := by decide +kernel
theorem dX6_doInteriorsMeet_111 : decode prog_8_method_5_code 111 = .ok (.invokevirtual 60, 3) := by decide +kernel
theorem dX6_doInteriorsMeet_114 : decode prog_8_method_5_code 114 = .ok (.istore 5, 2) := by decide +kernel
theorem dX6_doInteriorsMeet_116 : decode prog_8_method_5_code 116 = .ok (.iload 5, 2) := by decide +kernel
theorem dX6_doInteriorsMeet_118 : decode prog_8_method_5_code 118 = .ok (.iconst 1, 1) := by decide +kernel
theorem dX6_doInteriorsMeet_119 : decode prog_8_method_5_code 119 = .ok (.iand, 1) := by decide +kernel
theorem dX6_doInteriorsMeet_120 : decode prog_8_method_5_code 120 = .ok (.ifCond .eq 5, 3) := by decide +kernel
theorem dX6_doInteriorsMeet_123 : decode prog_8_method_5_code 123 = .ok (.iconst 1, 1) := by decide +kernel
theorem dX6_doInteriorsMeet_124 : decode prog_8_method_5_code 124 = .ok (.ireturn, 1) := by decide +kernel
theorem dX6_doInteriorsMeet_125 : decode prog_8_method_5_code 125 = .ok (.aload_n 3, 1) := by decide +kernel
theorem dX6_doInteriorsMeet_126 : decode prog_8_method_5_code 126 = .ok (.getfield 31, 3) := by decide +kernel
theorem dX6_doInteriorsMeet_129 : decode prog_8_method_5_code 129 = .ok (.iconst 1, 1) := by decide +kernel
theorem dX6_doInteriorsMeet_130 : decode prog_8_method_5_code 130 = .ok (.if_icmp .ne 5, 3) := by decide +kernel
theorem dX6_doInteriorsMeet_133 : decode prog_8_method_5_code 133 = .ok (.iconst 0, 1) := by decide +kernel
theorem dX6_doInteriorsMeet_134 : decode prog_8_method_5_code 134 = .ok (.ireturn, 1) := by decide +kernel
theorem dX6_doInteriorsMeet_135 : decode prog_8_method_5_code 135 = .ok (.aload_n 0, 1) := by decide +kernel
theorem dX6_doInteriorsMeet_136 : decode prog_8_method_5_code 136 = .ok (.getfield 9, 3) := by decide +kernel
theorem dX6_doInteriorsMeet_139 : decode prog_8_method_5_code 139 = .ok (.aload_n 3, 1) := by decide +kernel
theorem dX6_doInteriorsMeet_140 : decode prog_8_method_5_code 140 = .ok (.iconst 0, 1) := by decide +kernel
theorem dX6_doInteriorsMeet_141 : decode prog_8_method_5_code 141 = .ok (.aload_n 3, 1) := by decide +kernel
theorem dX6_doInteriorsMeet_142 : decode prog_8_method_5_code 142 = .ok (.getfield 53, 3) := by decide +kernel
theorem dX6_doInteriorsMeet_145 : decode prog_8_method_5_code 145 = .ok (.invokevirtual 56, 3) := by decide +kernel
theorem dX6_doInteriorsMeet_148 : decode prog_8_method_5_code 148 = .ok (.aload_n 0, 1) := by decide +kernel
theorem dX6_doInteriorsMeet_149 : decode prog_8_method_5_code 149 = .ok (.getfield 9, 3) := by decide +kernel
theorem dX6_doInteriorsMeet_152 : decode prog_8_method_5_code 152 = .ok (.aload 4, 2) := by decide +kernel
theorem dX6_doInteriorsMeet_154 : decode prog_8_method_5_code 154 = .ok (.iconst 0, 1) := by decide +kernel
theorem dX6_doInteriorsMeet_155 : decode prog_8_method_5_code 155 = .ok (.aload 4, 2) := by decide +kernel
theorem dX6_doInteriorsMeet_157 : decode prog_8_method_5_code 157 = .ok (.getfield 53, 3) := by decide +kernel
theorem dX6_doInteriorsMeet_160 : decode prog_8_method_5_code 160 = .ok (.iconst 1, 1) := by decide +kernel
theorem dX6_doInteriorsMeet_161 : decode prog_8_method_5_code 161 = .ok (.invokevirtual 60, 3) := by decide +kernel
theorem dX6_doInteriorsMeet_164 : decode prog_8_method_5_code 164 = .ok (.istore 6, 2) := by decide +kernel
theorem dX6_doInteriorsMeet_166 : decode prog_8_method_5_code 166 = .ok (.iload 6, 2) := by decide +kernel
theorem dX6_doInteriorsMeet_168 : decode prog_8_method_5_code 168 = .ok (.iconst 1, 1) := by decide +kernel
theorem dX6_doInteriorsMeet_169 : decode prog_8_method_5_code 169 = .ok (.iand, 1) := by decide +kernel
theorem dX6_doInteriorsMeet_170 : decode prog_8_method_5_code 170 = .ok (.ifCond .ne 13, 3) := by decide +kernel
theorem dX6_doInteriorsMeet_173 : decode prog_8_method_5_code 173 = .ok (.iload 5, 2) := by decide +kernel
theorem dX6_doInteriorsMeet_175 : decode prog_8_method_5_code 175 = .ok (.iload 6, 2) := by decide +kernel
theorem dX6_doInteriorsMeet_177 : decode prog_8_method_5_code 177 = .ok (.invokestatic 71, 3) := by decide +kernel
theorem dX6_doInteriorsMeet_180 : decode prog_8_method_5_code 180 = .ok (.ifCond .eq 7, 3) := by decide +kernel
theorem dX6_doInteriorsMeet_183 : decode prog_8_method_5_code 183 = .ok (.iconst 1, 1) := by decide +kernel
theorem dX6_doInteriorsMeet_184 : decode prog_8_method_5_code 184 = .ok (.goto 4, 3) := by decide +kernel
theorem dX6_doInteriorsMeet_187 : decode prog_8_method_5_code 187 = .ok (.iconst 0, 1) := by decide +kernel
theorem dX6_doInteriorsMeet_188 : decode prog_8_method_5_code 188 = .ok (.ireturn, 1) := by decide +kernel
theorem dX6_areOnlyAlong_0 : decode prog_8_method_6_code 0 = .ok (.iload_n 0, 1) := by decide +kernel
theorem dX6_areOnlyAlong_1 : decode prog_8_method_6_code 1 = .ok (.bipush (-9), 2) := by decide +kernel
theorem dX6_areOnlyAlong_3 : decode prog_8_method_6_code 3 = .ok (.iand, 1) := by decide +kernel
theorem dX6_areOnlyAlong_4 : decode prog_8_method_6_code 4 = .ok (.iconst 4, 1) := by decide +kernel
theorem dX6_areOnlyAlong_5 : decode prog_8_method_6_code 5 = .ok (.if_icmp .ne 15, 3) := by decide +kernel
theorem dX6_areOnlyAlong_8 : decode prog_8_method_6_code 8 = .ok (.iload_n 1, 1) := by decide +kernel
theorem dX6_areOnlyAlong_9 : decode prog_8_method_6_code 9 = .ok (.bipush (-9), 2) := by decide +kernel
theorem dX6_areOnlyAlong_11 : decode prog_8_method_6_code 11 = .ok (.iand, 1) := by decide +kernel
theorem dX6_areOnlyAlong_12 : decode prog_8_method_6_code 12 = .ok (.iconst 4, 1) := by decide +kernel
theorem dX6_areOnlyAlong_13 : decode prog_8_method_6_code 13 = .ok (.if_icmp .ne 7, 3) := by decide +kernel
theorem dX6_areOnlyAlong_16 : decode prog_8_method_6_code 16 = .ok (.iconst 1, 1) := by decide +kernel
theorem dX6_areOnlyAlong_17 : decode prog_8_method_6_code 17 = .ok (.goto 4, 3) := by decide +kernel
theorem dX6_areOnlyAlong_20 : decode prog_8_method_6_code 20 = .ok (.iconst 0, 1) := by decide +kernel
theorem dX6_areOnlyAlong_21 : decode prog_8_method_6_code 21 = .ok (.ireturn, 1) := by decide +kernel
theorem dX6_doLineInteriorsMeet_0 : decode prog_8_method_7_code 0 = .ok (.iconst 0, 1) := by decide +kernel
theorem dX6_doLineInteriorsMeet_1 : decode prog_8_method_7_code 1 = .ok (.istore_n 2, 1) := by decide +kernel
theorem dX6_doLineInteriorsMeet_2 : decode prog_8_method_7_code 2 = .ok (.iload_n 2, 1) := by decide +kernel
theorem dX6_doLineInteriorsMeet_3 : decode prog_8_method_7_code 3 = .ok (.iconst 1, 1) := by decide +kernel
theorem dX6_doLineInteriorsMeet_4 : decode prog_8_method_7_code 4 = .ok (.iadd, 1) := by decide +kernel
theorem dX6_doLineInteriorsMeet_5 : decode prog_8_method_7_code 5 = .ok (.aload_n 0, 1) := by decide +kernel
theorem dX6_doLineInteriorsMeet_6 : decode prog_8_method_7_code 6 = .ok (.getfield 53, 3) := by decide +kernel
theorem dX6_doLineInteriorsMeet_9 : decode prog_8_method_7_code 9 = .ok (.if_icmp .ge 72, 3) := by decide +kernel
theorem dX6_doLineInteriorsMeet_12 : decode prog_8_method_7_code 12 = .ok (.iconst 0, 1) := by decide +kernel
theorem dX6_doLineInteriorsMeet_13 : decode prog_8_method_7_code 13 = .ok (.istore_n 3, 1) := by decide +kernel
theorem dX6_doLineInteriorsMeet_14 : decode prog_8_method_7_code 14 = .ok (.iload_n 3, 1) := by decide +kernel
theorem dX6_doLineInteriorsMeet_15 : decode prog_8_method_7_code 15 = .ok (.iconst 1, 1) := by decide +kernel
theorem dX6_doLineInteriorsMeet_16 : decode prog_8_method_7_code 16 = .ok (.iadd, 1) := by decide +kernel
theorem dX6_doLineInteriorsMeet_17 : decode prog_8_method_7_code 17 = .ok (.aload_n 1, 1) := by decide +kernel
theorem dX6_doLineInteriorsMeet_18 : decode prog_8_method_7_code 18 = .ok (.getfield 53, 3) := by decide +kernel
theorem dX6_doLineInteriorsMeet_21 : decode prog_8_method_7_code 21 = .ok (.if_icmp .ge 54, 3) := by decide +kernel
theorem dX6_doLineInteriorsMeet_24 : decode prog_8_method_7_code 24 = .ok (.aload_n 0, 1) := by decide +kernel
theorem dX6_doLineInteriorsMeet_25 : decode prog_8_method_7_code 25 = .ok (.iload_n 2, 1) := by decide +kernel
theorem dX6_doLineInteriorsMeet_26 : decode prog_8_method_7_code 26 = .ok (.aload_n 1, 1) := by decide +kernel
theorem dX6_doLineInteriorsMeet_27 : decode prog_8_method_7_code 27 = .ok (.iload_n 3, 1) := by decide +kernel
theorem dX6_doLineInteriorsMeet_28 : decode prog_8_method_7_code 28 = .ok (.invokestatic 64, 3) := by decide +kernel
theorem dX6_doLineInteriorsMeet_31 : decode prog_8_method_7_code 31 = .ok (.istore 4, 2) := by decide +kernel
theorem dX6_doLineInteriorsMeet_33 : decode prog_8_method_7_code 33 = .ok (.iload 4, 2) := by decide +kernel
theorem dX6_doLineInteriorsMeet_35 : decode prog_8_method_7_code 35 = .ok (.iconst 2, 1) := by decide +kernel
theorem dX6_doLineInteriorsMeet_36 : decode prog_8_method_7_code 36 = .ok (.if_icmp .eq 31, 3) := by decide +kernel
theorem dX6_doLineInteriorsMeet_39 : decode prog_8_method_7_code 39 = .ok (.iload 4, 2) := by decide +kernel
theorem dX6_doLineInteriorsMeet_41 : decode prog_8_method_7_code 41 = .ok (.iconst 1, 1) := by decide +kernel
theorem dX6_doLineInteriorsMeet_42 : decode prog_8_method_7_code 42 = .ok (.if_icmp .ne 27, 3) := by decide +kernel
theorem dX6_doLineInteriorsMeet_45 : decode prog_8_method_7_code 45 = .ok (.aload_n 0, 1) := by decide +kernel
theorem dX6_doLineInteriorsMeet_46 : decode prog_8_method_7_code 46 = .ok (.iload_n 2, 1) := by decide +kernel
theorem dX6_doLineInteriorsMeet_47 : decode prog_8_method_7_code 47 = .ok (.aload_n 0, 1) := by decide +kernel
theorem dX6_doLineInteriorsMeet_48 : decode prog_8_method_7_code 48 = .ok (.aload_n 1, 1) := by decide +kernel
theorem dX6_doLineInteriorsMeet_49 : decode prog_8_method_7_code 49 = .ok (.iload_n 3, 1) := by decide +kernel
theorem dX6_doLineInteriorsMeet_50 : decode prog_8_method_7_code 50 = .ok (.invokestatic 75, 3) := by decide +kernel
theorem dX6_doLineInteriorsMeet_53 : decode prog_8_method_7_code 53 = .ok (.ifCond .ne 16, 3) := by decide +kernel
theorem dX6_doLineInteriorsMeet_56 : decode prog_8_method_7_code 56 = .ok (.aload_n 1, 1) := by decide +kernel
theorem dX6_doLineInteriorsMeet_57 : decode prog_8_method_7_code 57 = .ok (.iload_n 3, 1) := by decide +kernel
theorem dX6_doLineInteriorsMeet_58 : decode prog_8_method_7_code 58 = .ok (.aload_n 1, 1) := by decide +kernel
theorem dX6_doLineInteriorsMeet_59 : decode prog_8_method_7_code 59 = .ok (.aload_n 0, 1) := by decide +kernel
theorem dX6_doLineInteriorsMeet_60 : decode prog_8_method_7_code 60 = .ok (.iload_n 2, 1) := by decide +kernel
theorem dX6_doLineInteriorsMeet_61 : decode prog_8_method_7_code 61 = .ok (.invokestatic 75, 3) := by decide +kernel
theorem dX6_doLineInteriorsMeet_64 : decode prog_8_method_7_code 64 = .ok (.ifCond .ne 5, 3) := by decide +kernel
theorem dX6_doLineInteriorsMeet_67 : decode prog_8_method_7_code 67 = .ok (.iconst 1, 1) := by decide +kernel
theorem dX6_doLineInteriorsMeet_68 : decode prog_8_method_7_code 68 = .ok (.ireturn, 1) := by decide +kernel
theorem dX6_doLineInteriorsMeet_69 : decode prog_8_method_7_code 69 = .ok (.iinc 3 1, 3) := by decide +kernel
theorem dX6_doLineInteriorsMeet_72 : decode prog_8_method_7_code 72 = .ok (.goto (-58), 3) := by decide +kernel
theorem dX6_doLineInteriorsMeet_75 : decode prog_8_method_7_code 75 = .ok (.iinc 2 1, 3) := by decide +kernel
theorem dX6_doLineInteriorsMeet_78 : decode prog_8_method_7_code 78 = .ok (.goto (-76), 3) := by decide +kernel
theorem dX6_doLineInteriorsMeet_81 : decode prog_8_method_7_code 81 = .ok (.iconst 0, 1) := by decide +kernel
theorem dX6_doLineInteriorsMeet_82 : decode prog_8_method_7_code 82 = .ok (.ireturn, 1) := by decide +kernel
theorem dX6_isAtTip_0 : decode prog_8_method_8_code 0 = .ok (.aload_n 2, 1) := by decide +kernel
theorem dX6_isAtTip_1 : decode prog_8_method_8_code 1 = .ok (.getfield 53, 3) := by decide +kernel
theorem dX6_isAtTip_4 : decode prog_8_method_8_code 4 = .ok (.iconst 1, 1) := by decide +kernel
theorem dX6_isAtTip_5 : decode prog_8_method_8_code 5 = .ok (.isub, 1) := by decide +kernel
theorem dX6_isAtTip_6 : decode prog_8_method_8_code 6 = .ok (.istore 5, 2) := by decide +kernel
theorem dX6_isAtTip_8 : decode prog_8_method_8_code 8 = .ok (.iload 5, 2) := by decide +kernel
theorem dX6_isAtTip_10 : decode prog_8_method_8_code 10 = .ok (.iconst 1, 1) := by decide +kernel
theorem dX6_isAtTip_11 : decode prog_8_method_8_code 11 = .ok (.if_icmp .lt 13, 3) := by decide +kernel
theorem dX6_isAtTip_14 : decode prog_8_method_8_code 14 = .ok (.aload_n 2, 1) := by decide +kernel
theorem dX6_isAtTip_15 : decode prog_8_method_8_code 15 = .ok (.iconst 0, 1) := by decide +kernel
theorem dX6_isAtTip_16 : decode prog_8_method_8_code 16 = .ok (.iload 5, 2) := by decide +kernel
theorem dX6_isAtTip_18 : decode prog_8_method_8_code 18 = .ok (.invokevirtual 79, 3) := by decide +kernel
theorem dX6_isAtTip_21 : decode prog_8_method_8_code 21 = .ok (.ifCond .eq 5, 3) := by decide +kernel
theorem dX6_isAtTip_24 : decode prog_8_method_8_code 24 = .ok (.iconst 0, 1) := by decide +kernel
theorem dX6_isAtTip_25 : decode prog_8_method_8_code 25 = .ok (.ireturn, 1) := by decide +kernel
theorem dX6_isAtTip_26 : decode prog_8_method_8_code 26 = .ok (.aload_n 0, 1) := by decide +kernel
theorem dX6_isAtTip_27 : decode prog_8_method_8_code 27 = .ok (.iload_n 1, 1) := by decide +kernel
theorem dX6_isAtTip_28 : decode prog_8_method_8_code 28 = .ok (.aload_n 2, 1) := by decide +kernel
theorem dX6_isAtTip_29 : decode prog_8_method_8_code 29 = .ok (.getfield 35, 3) := by decide +kernel
theorem dX6_isAtTip_32 : decode prog_8_method_8_code 32 = .ok (.iconst 0, 1) := by decide +kernel
theorem dX6_isAtTip_33 : decode prog_8_method_8_code 33 = .ok (.iaload, 1) := by decide +kernel
theorem dX6_isAtTip_34 : decode prog_8_method_8_code 34 = .ok (.aload_n 2, 1) := by decide +kernel
theorem dX6_isAtTip_35 : decode prog_8_method_8_code 35 = .ok (.getfield 39, 3) := by decide +kernel
theorem dX6_isAtTip_38 : decode prog_8_method_8_code 38 = .ok (.iconst 0, 1) := by decide +kernel
theorem dX6_isAtTip_39 : decode prog_8_method_8_code 39 = .ok (.iaload, 1) := by decide +kernel
theorem dX6_isAtTip_40 : decode prog_8_method_8_code 40 = .ok (.invokestatic 82, 3) := by decide +kernel
theorem dX6_isAtTip_43 : decode prog_8_method_8_code 43 = .ok (.ifCond .eq 24, 3) := by decide +kernel
theorem dX6_isAtTip_46 : decode prog_8_method_8_code 46 = .ok (.aload_n 3, 1) := by decide +kernel
theorem dX6_isAtTip_47 : decode prog_8_method_8_code 47 = .ok (.iload 4, 2) := by decide +kernel
theorem dX6_isAtTip_49 : decode prog_8_method_8_code 49 = .ok (.aload_n 2, 1) := by decide +kernel
theorem dX6_isAtTip_50 : decode prog_8_method_8_code 50 = .ok (.getfield 35, 3) := by decide +kernel
theorem dX6_isAtTip_53 : decode prog_8_method_8_code 53 = .ok (.iconst 0, 1) := by decide +kernel
theorem dX6_isAtTip_54 : decode prog_8_method_8_code 54 = .ok (.iaload, 1) := by decide +kernel
theorem dX6_isAtTip_55 : decode prog_8_method_8_code 55 = .ok (.aload_n 2, 1) := by decide +kernel
theorem dX6_isAtTip_56 : decode prog_8_method_8_code 56 = .ok (.getfield 39, 3) := by decide +kernel
theorem dX6_isAtTip_59 : decode prog_8_method_8_code 59 = .ok (.iconst 0, 1) := by decide +kernel
theorem dX6_isAtTip_60 : decode prog_8_method_8_code 60 = .ok (.iaload, 1) := by decide +kernel
theorem dX6_isAtTip_61 : decode prog_8_method_8_code 61 = .ok (.invokestatic 82, 3) := by decide +kernel
theorem dX6_isAtTip_64 : decode prog_8_method_8_code 64 = .ok (.ifCond .ne 48, 3) := by decide +kernel
theorem dX6_isAtTip_67 : decode prog_8_method_8_code 67 = .ok (.aload_n 0, 1) := by decide +kernel
theorem dX6_isAtTip_68 : decode prog_8_method_8_code 68 = .ok (.iload_n 1, 1) := by decide +kernel
theorem dX6_isAtTip_69 : decode prog_8_method_8_code 69 = .ok (.aload_n 2, 1) := by decide +kernel
theorem dX6_isAtTip_70 : decode prog_8_method_8_code 70 = .ok (.getfield 35, 3) := by decide +kernel
theorem dX6_isAtTip_73 : decode prog_8_method_8_code 73 = .ok (.iload 5, 2) := by decide +kernel
theorem dX6_isAtTip_75 : decode prog_8_method_8_code 75 = .ok (.iaload, 1) := by decide +kernel
theorem dX6_isAtTip_76 : decode prog_8_method_8_code 76 = .ok (.aload_n 2, 1) := by decide +kernel
theorem dX6_isAtTip_77 : decode prog_8_method_8_code 77 = .ok (.getfield 39, 3) := by decide +kernel
theorem dX6_isAtTip_80 : decode prog_8_method_8_code 80 = .ok (.iload 5, 2) := by decide +kernel
theorem dX6_isAtTip_82 : decode prog_8_method_8_code 82 = .ok (.iaload, 1) := by decide +kernel
theorem dX6_isAtTip_83 : decode prog_8_method_8_code 83 = .ok (.invokestatic 82, 3) := by decide +kernel
theorem dX6_isAtTip_86 : decode prog_8_method_8_code 86 = .ok (.ifCond .eq 30, 3) := by decide +kernel
theorem dX6_isAtTip_89 : decode prog_8_method_8_code 89 = .ok (.aload_n 3, 1) := by decide +kernel
theorem dX6_isAtTip_90 : decode prog_8_method_8_code 90 = .ok (.iload 4, 2) := by decide +kernel
theorem dX6_isAtTip_92 : decode prog_8_method_8_code 92 = .ok (.aload_n 2, 1) := by decide +kernel
theorem dX6_isAtTip_93 : decode prog_8_method_8_code 93 = .ok (.getfield 35, 3) := by decide +kernel
theorem dX6_isAtTip_96 : decode prog_8_method_8_code 96 = .ok (.iload 5, 2) := by decide +kernel
theorem dX6_isAtTip_98 : decode prog_8_method_8_code 98 = .ok (.iaload, 1) := by decide +kernel
theorem dX6_isAtTip_99 : decode prog_8_method_8_code 99 = .ok (.aload_n 2, 1) := by decide +kernel
theorem dX6_isAtTip_100 : decode prog_8_method_8_code 100 = .ok (.getfield 39, 3) := by decide +kernel
theorem dX6_isAtTip_103 : decode prog_8_method_8_code 103 = .ok (.iload 5, 2) := by decide +kernel
theorem dX6_isAtTip_105 : decode prog_8_method_8_code 105 = .ok (.iaload, 1) := by decide +kernel
theorem dX6_isAtTip_106 : decode prog_8_method_8_code 106 = .ok (.invokestatic 82, 3) := by decide +kernel
theorem dX6_isAtTip_109 : decode prog_8_method_8_code 109 = .ok (.ifCond .eq 7, 3) := by decide +kernel
theorem dX6_isAtTip_112 : decode prog_8_method_8_code 112 = .ok (.iconst 1, 1) := by decide +kernel
theorem dX6_isAtTip_113 : decode prog_8_method_8_code 113 = .ok (.goto 4, 3) := by decide +kernel
theorem dX6_isAtTip_116 : decode prog_8_method_8_code 116 = .ok (.iconst 0, 1) := by decide +kernel
theorem dX6_isAtTip_117 : decode prog_8_method_8_code 117 = .ok (.ireturn, 1) := by decide +kernel
theorem dX6_isWithin_0 : decode prog_8_method_9_code 0 = .ok (.aload_n 1, 1) := by decide +kernel
theorem dX6_isWithin_1 : decode prog_8_method_9_code 1 = .ok (.getfield 31, 3) := by decide +kernel
theorem dX6_isWithin_4 : decode prog_8_method_9_code 4 = .ok (.aload_n 2, 1) := by decide +kernel
theorem dX6_isWithin_5 : decode prog_8_method_9_code 5 = .ok (.getfield 31, 3) := by decide +kernel
theorem dX6_isWithin_8 : decode prog_8_method_9_code 8 = .ok (.if_icmp .gt 11, 3) := by decide +kernel
theorem dX6_isWithin_11 : decode prog_8_method_9_code 11 = .ok (.aload_n 1, 1) := by decide +kernel
theorem dX6_isWithin_12 : decode prog_8_method_9_code 12 = .ok (.aload_n 2, 1) := by decide +kernel
theorem dX6_isWithin_13 : decode prog_8_method_9_code 13 = .ok (.invokevirtual 86, 3) := by decide +kernel
theorem dX6_isWithin_16 : decode prog_8_method_9_code 16 = .ok (.ifCond .ne 5, 3) := by decide +kernel
theorem dX6_isWithin_19 : decode prog_8_method_9_code 19 = .ok (.iconst 0, 1) := by decide +kernel
theorem dX6_isWithin_20 : decode prog_8_method_9_code 20 = .ok (.ireturn, 1) := by decide +kernel
theorem dX6_isWithin_21 : decode prog_8_method_9_code 21 = .ok (.aload_n 1, 1) := by decide +kernel
theorem dX6_isWithin_22 : decode prog_8_method_9_code 22 = .ok (.getfield 31, 3) := by decide +kernel
theorem dX6_isWithin_25 : decode prog_8_method_9_code 25 = .ok (.ifCond .ne 29, 3) := by decide +kernel
theorem dX6_isWithin_28 : decode prog_8_method_9_code 28 = .ok (.aload_n 2, 1) := by decide +kernel
theorem dX6_isWithin_29 : decode prog_8_method_9_code 29 = .ok (.aload_n 1, 1) := by decide +kernel
theorem dX6_isWithin_30 : decode prog_8_method_9_code 30 = .ok (.getfield 35, 3) := by decide +kernel
theorem dX6_isWithin_33 : decode prog_8_method_9_code 33 = .ok (.iconst 0, 1) := by decide +kernel
theorem dX6_isWithin_34 : decode prog_8_method_9_code 34 = .ok (.iaload, 1) := by decide +kernel
theorem dX6_isWithin_35 : decode prog_8_method_9_code 35 = .ok (.aload_n 1, 1) := by decide +kernel
theorem dX6_isWithin_36 : decode prog_8_method_9_code 36 = .ok (.getfield 39, 3) := by decide +kernel
theorem dX6_isWithin_39 : decode prog_8_method_9_code 39 = .ok (.iconst 0, 1) := by decide +kernel
theorem dX6_isWithin_40 : decode prog_8_method_9_code 40 = .ok (.iaload, 1) := by decide +kernel
theorem dX6_isWithin_41 : decode prog_8_method_9_code 41 = .ok (.invokestatic 42, 3) := by decide +kernel
theorem dX6_isWithin_44 : decode prog_8_method_9_code 44 = .ok (.iconst 1, 1) := by decide +kernel
theorem dX6_isWithin_45 : decode prog_8_method_9_code 45 = .ok (.if_icmp .ne 7, 3) := by decide +kernel
theorem dX6_isWithin_48 : decode prog_8_method_9_code 48 = .ok (.iconst 1, 1) := by decide +kernel
theorem dX6_isWithin_49 : decode prog_8_method_9_code 49 = .ok (.goto 4, 3) := by decide +kernel
theorem dX6_isWithin_52 : decode prog_8_method_9_code 52 = .ok (.iconst 0, 1) := by decide +kernel
theorem dX6_isWithin_53 : decode prog_8_method_9_code 53 = .ok (.ireturn, 1) := by decide +kernel
theorem dX6_isWithin_54 : decode prog_8_method_9_code 54 = .ok (.aload_n 2, 1) := by decide +kernel
theorem dX6_isWithin_55 : decode prog_8_method_9_code 55 = .ok (.getfield 31, 3) := by decide +kernel
theorem dX6_isWithin_58 : decode prog_8_method_9_code 58 = .ok (.iconst 1, 1) := by decide +kernel
theorem dX6_isWithin_59 : decode prog_8_method_9_code 59 = .ok (.if_icmp .ne 9, 3) := by decide +kernel
theorem dX6_isWithin_62 : decode prog_8_method_9_code 62 = .ok (.aload_n 1, 1) := by decide +kernel
theorem dX6_isWithin_63 : decode prog_8_method_9_code 63 = .ok (.aload_n 2, 1) := by decide +kernel
theorem dX6_isWithin_64 : decode prog_8_method_9_code 64 = .ok (.invokestatic 89, 3) := by decide +kernel
theorem dX6_isWithin_67 : decode prog_8_method_9_code 67 = .ok (.ireturn, 1) := by decide +kernel
theorem dX6_isWithin_68 : decode prog_8_method_9_code 68 = .ok (.aload_n 0, 1) := by decide +kernel
theorem dX6_isWithin_69 : decode prog_8_method_9_code 69 = .ok (.getfield 9, 3) := by decide +kernel
theorem dX6_isWithin_72 : decode prog_8_method_9_code 72 = .ok (.aload_n 2, 1) := by decide +kernel
theorem dX6_isWithin_73 : decode prog_8_method_9_code 73 = .ok (.iconst 0, 1) := by decide +kernel
theorem dX6_isWithin_74 : decode prog_8_method_9_code 74 = .ok (.aload_n 2, 1) := by decide +kernel
theorem dX6_isWithin_75 : decode prog_8_method_9_code 75 = .ok (.getfield 53, 3) := by decide +kernel
theorem dX6_isWithin_78 : decode prog_8_method_9_code 78 = .ok (.invokevirtual 56, 3) := by decide +kernel
theorem dX6_isWithin_81 : decode prog_8_method_9_code 81 = .ok (.aload_n 0, 1) := by decide +kernel
theorem dX6_isWithin_82 : decode prog_8_method_9_code 82 = .ok (.getfield 9, 3) := by decide +kernel
theorem dX6_isWithin_85 : decode prog_8_method_9_code 85 = .ok (.aload_n 1, 1) := by decide +kernel
theorem dX6_isWithin_86 : decode prog_8_method_9_code 86 = .ok (.iconst 0, 1) := by decide +kernel
theorem dX6_isWithin_87 : decode prog_8_method_9_code 87 = .ok (.aload_n 1, 1) := by decide +kernel
theorem dX6_isWithin_88 : decode prog_8_method_9_code 88 = .ok (.getfield 53, 3) := by decide +kernel
theorem dX6_isWithin_91 : decode prog_8_method_9_code 91 = .ok (.iconst 2, 1) := by decide +kernel
theorem dX6_isWithin_92 : decode prog_8_method_9_code 92 = .ok (.invokevirtual 60, 3) := by decide +kernel
theorem dX6_isWithin_95 : decode prog_8_method_9_code 95 = .ok (.istore_n 3, 1) := by decide +kernel
theorem dX6_isWithin_96 : decode prog_8_method_9_code 96 = .ok (.iload_n 3, 1) := by decide +kernel
theorem dX6_isWithin_97 : decode prog_8_method_9_code 97 = .ok (.iconst 2, 1) := by decide +kernel
theorem dX6_isWithin_98 : decode prog_8_method_9_code 98 = .ok (.iand, 1) := by decide +kernel
theorem dX6_isWithin_99 : decode prog_8_method_9_code 99 = .ok (.ifCond .eq 5, 3) := by decide +kernel
theorem dX6_isWithin_102 : decode prog_8_method_9_code 102 = .ok (.iconst 0, 1) := by decide +kernel
theorem dX6_isWithin_103 : decode prog_8_method_9_code 103 = .ok (.ireturn, 1) := by decide +kernel
theorem dX6_isWithin_104 : decode prog_8_method_9_code 104 = .ok (.iload_n 3, 1) := by decide +kernel
theorem dX6_isWithin_105 : decode prog_8_method_9_code 105 = .ok (.iconst 1, 1) := by decide +kernel
theorem dX6_isWithin_106 : decode prog_8_method_9_code 106 = .ok (.iand, 1) := by decide +kernel
theorem dX6_isWithin_107 : decode prog_8_method_9_code 107 = .ok (.ifCond .eq 7, 3) := by decide +kernel
theorem dX6_isWithin_110 : decode prog_8_method_9_code 110 = .ok (.iconst 1, 1) := by decide +kernel
theorem dX6_isWithin_111 : decode prog_8_method_9_code 111 = .ok (.goto 4, 3) := by decide +kernel
theorem dX6_isWithin_114 : decode prog_8_method_9_code 114 = .ok (.iconst 0, 1) := by decide +kernel
theorem dX6_isWithin_115 : decode prog_8_method_9_code 115 = .ok (.istore 4, 2) := by decide +kernel
theorem dX6_isWithin_117 : decode prog_8_method_9_code 117 = .ok (.aload_n 1, 1) := by decide +kernel
theorem dX6_isWithin_118 : decode prog_8_method_9_code 118 = .ok (.getfield 31, 3) := by decide +kernel
theorem dX6_isWithin_121 : decode prog_8_method_9_code 121 = .ok (.iconst 1, 1) := by decide +kernel
theorem dX6_isWithin_122 : decode prog_8_method_9_code 122 = .ok (.if_icmp .ne 6, 3) := by decide +kernel
theorem dX6_isWithin_125 : decode prog_8_method_9_code 125 = .ok (.iload 4, 2) := by decide +kernel
theorem dX6_isWithin_127 : decode prog_8_method_9_code 127 = .ok (.ireturn, 1) := by decide +kernel
theorem dX6_isWithin_128 : decode prog_8_method_9_code 128 = .ok (.aload_n 0, 1) := by decide +kernel
theorem dX6_isWithin_129 : decode prog_8_method_9_code 129 = .ok (.getfield 9, 3) := by decide +kernel
theorem dX6_isWithin_132 : decode prog_8_method_9_code 132 = .ok (.aload_n 1, 1) := by decide +kernel
theorem dX6_isWithin_133 : decode prog_8_method_9_code 133 = .ok (.iconst 0, 1) := by decide +kernel
theorem dX6_isWithin_134 : decode prog_8_method_9_code 134 = .ok (.aload_n 1, 1) := by decide +kernel
theorem dX6_isWithin_135 : decode prog_8_method_9_code 135 = .ok (.getfield 53, 3) := by decide +kernel
theorem dX6_isWithin_138 : decode prog_8_method_9_code 138 = .ok (.invokevirtual 56, 3) := by decide +kernel
theorem dX6_isWithin_141 : decode prog_8_method_9_code 141 = .ok (.aload_n 0, 1) := by decide +kernel
theorem dX6_isWithin_142 : decode prog_8_method_9_code 142 = .ok (.getfield 9, 3) := by decide +kernel
theorem dX6_isWithin_145 : decode prog_8_method_9_code 145 = .ok (.aload_n 2, 1) := by decide +kernel
theorem dX6_isWithin_146 : decode prog_8_method_9_code 146 = .ok (.iconst 0, 1) := by decide +kernel
theorem dX6_isWithin_147 : decode prog_8_method_9_code 147 = .ok (.aload_n 2, 1) := by decide +kernel
theorem dX6_isWithin_148 : decode prog_8_method_9_code 148 = .ok (.getfield 53, 3) := by decide +kernel
theorem dX6_isWithin_151 : decode prog_8_method_9_code 151 = .ok (.iconst 1, 1) := by decide +kernel
theorem dX6_isWithin_152 : decode prog_8_method_9_code 152 = .ok (.invokevirtual 60, 3) := by decide +kernel
theorem dX6_isWithin_155 : decode prog_8_method_9_code 155 = .ok (.istore 5, 2) := by decide +kernel
theorem dX6_isWithin_157 : decode prog_8_method_9_code 157 = .ok (.iload 5, 2) := by decide +kernel
theorem dX6_isWithin_159 : decode prog_8_method_9_code 159 = .ok (.iconst 1, 1) := by decide +kernel
theorem dX6_isWithin_160 : decode prog_8_method_9_code 160 = .ok (.iand, 1) := by decide +kernel
theorem dX6_isWithin_161 : decode prog_8_method_9_code 161 = .ok (.ifCond .ne 21, 3) := by decide +kernel
theorem dX6_isWithin_164 : decode prog_8_method_9_code 164 = .ok (.iload 4, 2) := by decide +kernel
theorem dX6_isWithin_166 : decode prog_8_method_9_code 166 = .ok (.ifCond .ne 12, 3) := by decide +kernel
theorem dX6_isWithin_169 : decode prog_8_method_9_code 169 = .ok (.iload_n 3, 1) := by decide +kernel
theorem dX6_isWithin_170 : decode prog_8_method_9_code 170 = .ok (.iload 5, 2) := by decide +kernel
theorem dX6_isWithin_172 : decode prog_8_method_9_code 172 = .ok (.invokestatic 71, 3) := by decide +kernel
theorem dX6_isWithin_175 : decode prog_8_method_9_code 175 = .ok (.ifCond .eq 7, 3) := by decide +kernel
theorem dX6_isWithin_178 : decode prog_8_method_9_code 178 = .ok (.iconst 1, 1) := by decide +kernel
theorem dX6_isWithin_179 : decode prog_8_method_9_code 179 = .ok (.goto 4, 3) := by decide +kernel
theorem dX6_isWithin_182 : decode prog_8_method_9_code 182 = .ok (.iconst 0, 1) := by decide +kernel
theorem dX6_isWithin_183 : decode prog_8_method_9_code 183 = .ok (.ireturn, 1) := by decide +kernel
theorem dX6_isLineWithin_0 : decode prog_8_method_10_code 0 = .ok (.iconst 0, 1) := by decide +kernel
theorem dX6_isLineWithin_1 : decode prog_8_method_10_code 1 = .ok (.istore_n 2, 1) := by decide +kernel
theorem dX6_isLineWithin_2 : decode prog_8_method_10_code 2 = .ok (.iload_n 2, 1) := by decide +kernel
theorem dX6_isLineWithin_3 : decode prog_8_method_10_code 3 = .ok (.iconst 1, 1) := by decide +kernel
theorem dX6_isLineWithin_4 : decode prog_8_method_10_code 4 = .ok (.iadd, 1) := by decide +kernel
theorem dX6_isLineWithin_5 : decode prog_8_method_10_code 5 = .ok (.aload_n 0, 1) := by decide +kernel
theorem dX6_isLineWithin_6 : decode prog_8_method_10_code 6 = .ok (.getfield 53, 3) := by decide +kernel
theorem dX6_isLineWithin_9 : decode prog_8_method_10_code 9 = .ok (.if_icmp .ge 20, 3) := by decide +kernel
theorem dX6_isLineWithin_12 : decode prog_8_method_10_code 12 = .ok (.aload_n 0, 1) := by decide +kernel
theorem dX6_isLineWithin_13 : decode prog_8_method_10_code 13 = .ok (.iload_n 2, 1) := by decide +kernel
theorem dX6_isLineWithin_14 : decode prog_8_method_10_code 14 = .ok (.aload_n 1, 1) := by decide +kernel
theorem dX6_isLineWithin_15 : decode prog_8_method_10_code 15 = .ok (.invokestatic 92, 3) := by decide +kernel
theorem dX6_isLineWithin_18 : decode prog_8_method_10_code 18 = .ok (.ifCond .ne 5, 3) := by decide +kernel
theorem dX6_isLineWithin_21 : decode prog_8_method_10_code 21 = .ok (.iconst 0, 1) := by decide +kernel
theorem dX6_isLineWithin_22 : decode prog_8_method_10_code 22 = .ok (.ireturn, 1) := by decide +kernel
theorem dX6_isLineWithin_23 : decode prog_8_method_10_code 23 = .ok (.iinc 2 1, 3) := by decide +kernel
theorem dX6_isLineWithin_26 : decode prog_8_method_10_code 26 = .ok (.goto (-24), 3) := by decide +kernel
theorem dX6_isLineWithin_29 : decode prog_8_method_10_code 29 = .ok (.iconst 1, 1) := by decide +kernel
theorem dX6_isLineWithin_30 : decode prog_8_method_10_code 30 = .ok (.ireturn, 1) := by decide +kernel
theorem dX6_isWayCovered_0 : decode prog_8_method_11_code 0 = .ok (.aload_n 0, 1) := by decide +kernel
theorem dX6_isWayCovered_1 : decode prog_8_method_11_code 1 = .ok (.getfield 35, 3) := by decide +kernel
theorem dX6_isWayCovered_4 : decode prog_8_method_11_code 4 = .ok (.iload_n 1, 1) := by decide +kernel
theorem dX6_isWayCovered_5 : decode prog_8_method_11_code 5 = .ok (.iaload, 1) := by decide +kernel
theorem dX6_isWayCovered_6 : decode prog_8_method_11_code 6 = .ok (.aload_n 0, 1) := by decide +kernel
theorem dX6_isWayCovered_7 : decode prog_8_method_11_code 7 = .ok (.getfield 35, 3) := by decide +kernel
theorem dX6_isWayCovered_10 : decode prog_8_method_11_code 10 = .ok (.iload_n 1, 1) := by decide +kernel
theorem dX6_isWayCovered_11 : decode prog_8_method_11_code 11 = .ok (.iconst 1, 1) := by decide +kernel
theorem dX6_isWayCovered_12 : decode prog_8_method_11_code 12 = .ok (.iadd, 1) := by decide +kernel
theorem dX6_isWayCovered_13 : decode prog_8_method_11_code 13 = .ok (.iaload, 1) := by decide +kernel
theorem dX6_isWayCovered_14 : decode prog_8_method_11_code 14 = .ok (.if_icmp .eq 7, 3) := by decide +kernel
theorem dX6_isWayCovered_17 : decode prog_8_method_11_code 17 = .ok (.iconst 1, 1) := by decide +kernel
theorem dX6_isWayCovered_18 : decode prog_8_method_11_code 18 = .ok (.goto 4, 3) := by decide +kernel
theorem dX6_isWayCovered_21 : decode prog_8_method_11_code 21 = .ok (.iconst 0, 1) := by decide +kernel
theorem dX6_isWayCovered_22 : decode prog_8_method_11_code 22 = .ok (.istore_n 3, 1) := by decide +kernel
theorem dX6_isWayCovered_23 : decode prog_8_method_11_code 23 = .ok (.iload_n 3, 1) := by decide +kernel
theorem dX6_isWayCovered_24 : decode prog_8_method_11_code 24 = .ok (.ifCond .eq 10, 3) := by decide +kernel
theorem dX6_isWayCovered_27 : decode prog_8_method_11_code 27 = .ok (.aload_n 0, 1) := by decide +kernel
theorem dX6_isWayCovered_28 : decode prog_8_method_11_code 28 = .ok (.getfield 35, 3) := by decide +kernel
theorem dX6_isWayCovered_31 : decode prog_8_method_11_code 31 = .ok (.goto 7, 3) := by decide +kernel
theorem dX6_isWayCovered_34 : decode prog_8_method_11_code 34 = .ok (.aload_n 0, 1) := by decide +kernel
theorem dX6_isWayCovered_35 : decode prog_8_method_11_code 35 = .ok (.getfield 39, 3) := by decide +kernel
theorem dX6_isWayCovered_38 : decode prog_8_method_11_code 38 = .ok (.astore 4, 2) := by decide +kernel
theorem dX6_isWayCovered_40 : decode prog_8_method_11_code 40 = .ok (.iload_n 3, 1) := by decide +kernel
theorem dX6_isWayCovered_41 : decode prog_8_method_11_code 41 = .ok (.ifCond .eq 10, 3) := by decide +kernel
theorem dX6_isWayCovered_44 : decode prog_8_method_11_code 44 = .ok (.aload_n 2, 1) := by decide +kernel
theorem dX6_isWayCovered_45 : decode prog_8_method_11_code 45 = .ok (.getfield 35, 3) := by decide +kernel
theorem dX6_isWayCovered_48 : decode prog_8_method_11_code 48 = .ok (.goto 7, 3) := by decide +kernel
theorem dX6_isWayCovered_51 : decode prog_8_method_11_code 51 = .ok (.aload_n 2, 1) := by decide +kernel
theorem dX6_isWayCovered_52 : decode prog_8_method_11_code 52 = .ok (.getfield 39, 3) := by decide +kernel
theorem dX6_isWayCovered_55 : decode prog_8_method_11_code 55 = .ok (.astore 5, 2) := by decide +kernel
theorem dX6_isWayCovered_57 : decode prog_8_method_11_code 57 = .ok (.aload 4, 2) := by decide +kernel
theorem dX6_isWayCovered_59 : decode prog_8_method_11_code 59 = .ok (.iload_n 1, 1) := by decide +kernel
theorem dX6_isWayCovered_60 : decode prog_8_method_11_code 60 = .ok (.iaload, 1) := by decide +kernel
theorem dX6_isWayCovered_61 : decode prog_8_method_11_code 61 = .ok (.aload 4, 2) := by decide +kernel
theorem dX6_isWayCovered_63 : decode prog_8_method_11_code 63 = .ok (.iload_n 1, 1) := by decide +kernel
theorem dX6_isWayCovered_64 : decode prog_8_method_11_code 64 = .ok (.iconst 1, 1) := by decide +kernel
theorem dX6_isWayCovered_65 : decode prog_8_method_11_code 65 = .ok (.iadd, 1) := by decide +kernel
theorem dX6_isWayCovered_66 : decode prog_8_method_11_code 66 = .ok (.iaload, 1) := by decide +kernel
theorem dX6_isWayCovered_67 : decode prog_8_method_11_code 67 = .ok (.invokestatic 96, 3) := by decide +kernel
theorem dX6_isWayCovered_70 : decode prog_8_method_11_code 70 = .ok (.istore 6, 2) := by decide +kernel
theorem dX6_isWayCovered_72 : decode prog_8_method_11_code 72 = .ok (.aload 4, 2) := by decide +kernel
theorem dX6_isWayCovered_74 : decode prog_8_method_11_code 74 = .ok (.iload_n 1, 1) := by decide +kernel
theorem dX6_isWayCovered_75 : decode prog_8_method_11_code 75 = .ok (.iaload, 1) := by decide +kernel
theorem dX6_isWayCovered_76 : decode prog_8_method_11_code 76 = .ok (.aload 4, 2) := by decide +kernel
theorem dX6_isWayCovered_78 : decode prog_8_method_11_code 78 = .ok (.iload_n 1, 1) := by decide +kernel
theorem dX6_isWayCovered_79 : decode prog_8_method_11_code 79 = .ok (.iconst 1, 1) := by decide +kernel
theorem dX6_isWayCovered_80 : decode prog_8_method_11_code 80 = .ok (.iadd, 1) := by decide +kernel
theorem dX6_isWayCovered_81 : decode prog_8_method_11_code 81 = .ok (.iaload, 1) := by decide +kernel
theorem dX6_isWayCovered_82 : decode prog_8_method_11_code 82 = .ok (.invokestatic 102, 3) := by decide +kernel
theorem dX6_isWayCovered_85 : decode prog_8_method_11_code 85 = .ok (.istore 7, 2) := by decide +kernel
theorem dX6_isWayCovered_87 : decode prog_8_method_11_code 87 = .ok (.iconst 0, 1) := by decide +kernel
theorem dX6_isWayCovered_88 : decode prog_8_method_11_code 88 = .ok (.istore 8, 2) := by decide +kernel
theorem dX6_isWayCovered_90 : decode prog_8_method_11_code 90 = .ok (.iload 8, 2) := by decide +kernel
theorem dX6_isWayCovered_92 : decode prog_8_method_11_code 92 = .ok (.aload_n 2, 1) := by decide +kernel
theorem dX6_isWayCovered_93 : decode prog_8_method_11_code 93 = .ok (.getfield 53, 3) := by decide +kernel
theorem dX6_isWayCovered_96 : decode prog_8_method_11_code 96 = .ok (.if_icmp .ge 161, 3) := by decide +kernel
theorem dX6_isWayCovered_99 : decode prog_8_method_11_code 99 = .ok (.iload 6, 2) := by decide +kernel
theorem dX6_isWayCovered_101 : decode prog_8_method_11_code 101 = .ok (.iload 7, 2) := by decide +kernel
theorem dX6_isWayCovered_103 : decode prog_8_method_11_code 103 = .ok (.if_icmp .ge 154, 3) := by decide +kernel
theorem dX6_isWayCovered_106 : decode prog_8_method_11_code 106 = .ok (.iconst 0, 1) := by decide +kernel
theorem dX6_isWayCovered_107 : decode prog_8_method_11_code 107 = .ok (.istore 9, 2) := by decide +kernel
theorem dX6_isWayCovered_109 : decode prog_8_method_11_code 109 = .ok (.iload 9, 2) := by decide +kernel
theorem dX6_isWayCovered_111 : decode prog_8_method_11_code 111 = .ok (.iconst 1, 1) := by decide +kernel
theorem dX6_isWayCovered_112 : decode prog_8_method_11_code 112 = .ok (.iadd, 1) := by decide +kernel
theorem dX6_isWayCovered_113 : decode prog_8_method_11_code 113 = .ok (.aload_n 2, 1) := by decide +kernel
theorem dX6_isWayCovered_114 : decode prog_8_method_11_code 114 = .ok (.getfield 53, 3) := by decide +kernel
theorem dX6_isWayCovered_117 : decode prog_8_method_11_code 117 = .ok (.if_icmp .ge 134, 3) := by decide +kernel
theorem dX6_isWayCovered_120 : decode prog_8_method_11_code 120 = .ok (.aload 5, 2) := by decide +kernel
theorem dX6_isWayCovered_122 : decode prog_8_method_11_code 122 = .ok (.iload 9, 2) := by decide +kernel
theorem dX6_isWayCovered_124 : decode prog_8_method_11_code 124 = .ok (.iaload, 1) := by decide +kernel
theorem dX6_isWayCovered_125 : decode prog_8_method_11_code 125 = .ok (.aload 5, 2) := by decide +kernel
theorem dX6_isWayCovered_127 : decode prog_8_method_11_code 127 = .ok (.iload 9, 2) := by decide +kernel
theorem dX6_isWayCovered_129 : decode prog_8_method_11_code 129 = .ok (.iconst 1, 1) := by decide +kernel
theorem dX6_isWayCovered_130 : decode prog_8_method_11_code 130 = .ok (.iadd, 1) := by decide +kernel
theorem dX6_isWayCovered_131 : decode prog_8_method_11_code 131 = .ok (.iaload, 1) := by decide +kernel
theorem dX6_isWayCovered_132 : decode prog_8_method_11_code 132 = .ok (.invokestatic 96, 3) := by decide +kernel
theorem dX6_isWayCovered_135 : decode prog_8_method_11_code 135 = .ok (.iload 6, 2) := by decide +kernel
theorem dX6_isWayCovered_137 : decode prog_8_method_11_code 137 = .ok (.if_icmp .gt 27, 3) := by decide +kernel
theorem dX6_isWayCovered_140 : decode prog_8_method_11_code 140 = .ok (.aload 5, 2) := by decide +kernel
theorem dX6_isWayCovered_142 : decode prog_8_method_11_code 142 = .ok (.iload 9, 2) := by decide +kernel
theorem dX6_isWayCovered_144 : decode prog_8_method_11_code 144 = .ok (.iaload, 1) := by decide +kernel
theorem dX6_isWayCovered_145 : decode prog_8_method_11_code 145 = .ok (.aload 5, 2) := by decide +kernel
theorem dX6_isWayCovered_147 : decode prog_8_method_11_code 147 = .ok (.iload 9, 2) := by decide +kernel
theorem dX6_isWayCovered_149 : decode prog_8_method_11_code 149 = .ok (.iconst 1, 1) := by decide +kernel
theorem dX6_isWayCovered_150 : decode prog_8_method_11_code 150 = .ok (.iadd, 1) := by decide +kernel
theorem dX6_isWayCovered_151 : decode prog_8_method_11_code 151 = .ok (.iaload, 1) := by decide +kernel
theorem dX6_isWayCovered_152 : decode prog_8_method_11_code 152 = .ok (.invokestatic 102, 3) := by decide +kernel
theorem dX6_isWayCovered_155 : decode prog_8_method_11_code 155 = .ok (.iload 6, 2) := by decide +kernel
theorem dX6_isWayCovered_157 : decode prog_8_method_11_code 157 = .ok (.if_icmp .le 7, 3) := by decide +kernel
theorem dX6_isWayCovered_160 : decode prog_8_method_11_code 160 = .ok (.iconst 1, 1) := by decide +kernel
theorem dX6_isWayCovered_161 : decode prog_8_method_11_code 161 = .ok (.goto 4, 3) := by decide +kernel
theorem dX6_isWayCovered_164 : decode prog_8_method_11_code 164 = .ok (.iconst 0, 1) := by decide +kernel
theorem dX6_isWayCovered_165 : decode prog_8_method_11_code 165 = .ok (.istore 10, 2) := by decide +kernel
theorem dX6_isWayCovered_167 : decode prog_8_method_11_code 167 = .ok (.iload 10, 2) := by decide +kernel
theorem dX6_isWayCovered_169 : decode prog_8_method_11_code 169 = .ok (.ifCond .eq 76, 3) := by decide +kernel
theorem dX6_isWayCovered_172 : decode prog_8_method_11_code 172 = .ok (.aload_n 0, 1) := by decide +kernel
theorem dX6_isWayCovered_173 : decode prog_8_method_11_code 173 = .ok (.iload_n 1, 1) := by decide +kernel
theorem dX6_isWayCovered_174 : decode prog_8_method_11_code 174 = .ok (.aload_n 2, 1) := by decide +kernel
theorem dX6_isWayCovered_175 : decode prog_8_method_11_code 175 = .ok (.getfield 35, 3) := by decide +kernel
theorem dX6_isWayCovered_178 : decode prog_8_method_11_code 178 = .ok (.iload 9, 2) := by decide +kernel
theorem dX6_isWayCovered_180 : decode prog_8_method_11_code 180 = .ok (.iaload, 1) := by decide +kernel
theorem dX6_isWayCovered_181 : decode prog_8_method_11_code 181 = .ok (.i2l, 1) := by decide +kernel
theorem dX6_isWayCovered_182 : decode prog_8_method_11_code 182 = .ok (.aload_n 2, 1) := by decide +kernel
theorem dX6_isWayCovered_183 : decode prog_8_method_11_code 183 = .ok (.getfield 39, 3) := by decide +kernel
theorem dX6_isWayCovered_186 : decode prog_8_method_11_code 186 = .ok (.iload 9, 2) := by decide +kernel
theorem dX6_isWayCovered_188 : decode prog_8_method_11_code 188 = .ok (.iaload, 1) := by decide +kernel
theorem dX6_isWayCovered_189 : decode prog_8_method_11_code 189 = .ok (.i2l, 1) := by decide +kernel
theorem dX6_isWayCovered_190 : decode prog_8_method_11_code 190 = .ok (.invokestatic 105, 3) := by decide +kernel
theorem dX6_isWayCovered_193 : decode prog_8_method_11_code 193 = .ok (.lconst 0, 1) := by decide +kernel
theorem dX6_isWayCovered_194 : decode prog_8_method_11_code 194 = .ok (.lcmp, 1) := by decide +kernel
theorem dX6_isWayCovered_195 : decode prog_8_method_11_code 195 = .ok (.ifCond .ne 50, 3) := by decide +kernel
theorem dX6_isWayCovered_198 : decode prog_8_method_11_code 198 = .ok (.aload_n 0, 1) := by decide +kernel
theorem dX6_isWayCovered_199 : decode prog_8_method_11_code 199 = .ok (.iload_n 1, 1) := by decide +kernel
theorem dX6_isWayCovered_200 : decode prog_8_method_11_code 200 = .ok (.aload_n 2, 1) := by decide +kernel
theorem dX6_isWayCovered_201 : decode prog_8_method_11_code 201 = .ok (.getfield 35, 3) := by decide +kernel
theorem dX6_isWayCovered_204 : decode prog_8_method_11_code 204 = .ok (.iload 9, 2) := by decide +kernel
theorem dX6_isWayCovered_206 : decode prog_8_method_11_code 206 = .ok (.iconst 1, 1) := by decide +kernel
theorem dX6_isWayCovered_207 : decode prog_8_method_11_code 207 = .ok (.iadd, 1) := by decide +kernel
theorem dX6_isWayCovered_208 : decode prog_8_method_11_code 208 = .ok (.iaload, 1) := by decide +kernel
theorem dX6_isWayCovered_209 : decode prog_8_method_11_code 209 = .ok (.i2l, 1) := by decide +kernel
theorem dX6_isWayCovered_210 : decode prog_8_method_11_code 210 = .ok (.aload_n 2, 1) := by decide +kernel
theorem dX6_isWayCovered_211 : decode prog_8_method_11_code 211 = .ok (.getfield 39, 3) := by decide +kernel
theorem dX6_isWayCovered_214 : decode prog_8_method_11_code 214 = .ok (.iload 9, 2) := by decide +kernel
theorem dX6_isWayCovered_216 : decode prog_8_method_11_code 216 = .ok (.iconst 1, 1) := by decide +kernel
theorem dX6_isWayCovered_217 : decode prog_8_method_11_code 217 = .ok (.iadd, 1) := by decide +kernel
theorem dX6_isWayCovered_218 : decode prog_8_method_11_code 218 = .ok (.iaload, 1) := by decide +kernel
theorem dX6_isWayCovered_219 : decode prog_8_method_11_code 219 = .ok (.i2l, 1) := by decide +kernel
theorem dX6_isWayCovered_220 : decode prog_8_method_11_code 220 = .ok (.invokestatic 105, 3) := by decide +kernel
theorem dX6_isWayCovered_223 : decode prog_8_method_11_code 223 = .ok (.lconst 0, 1) := by decide +kernel
theorem dX6_isWayCovered_224 : decode prog_8_method_11_code 224 = .ok (.lcmp, 1) := by decide +kernel
theorem dX6_isWayCovered_225 : decode prog_8_method_11_code 225 = .ok (.ifCond .ne 20, 3) := by decide +kernel
theorem dX6_isWayCovered_228 : decode prog_8_method_11_code 228 = .ok (.aload 5, 2) := by decide +kernel
theorem dX6_isWayCovered_230 : decode prog_8_method_11_code 230 = .ok (.iload 9, 2) := by decide +kernel
theorem dX6_isWayCovered_232 : decode prog_8_method_11_code 232 = .ok (.iaload, 1) := by decide +kernel
theorem dX6_isWayCovered_233 : decode prog_8_method_11_code 233 = .ok (.aload 5, 2) := by decide +kernel
theorem dX6_isWayCovered_235 : decode prog_8_method_11_code 235 = .ok (.iload 9, 2) := by decide +kernel
theorem dX6_isWayCovered_237 : decode prog_8_method_11_code 237 = .ok (.iconst 1, 1) := by decide +kernel
theorem dX6_isWayCovered_238 : decode prog_8_method_11_code 238 = .ok (.iadd, 1) := by decide +kernel
theorem dX6_isWayCovered_239 : decode prog_8_method_11_code 239 = .ok (.iaload, 1) := by decide +kernel
theorem dX6_isWayCovered_240 : decode prog_8_method_11_code 240 = .ok (.invokestatic 102, 3) := by decide +kernel
theorem dX6_isWayCovered_243 : decode prog_8_method_11_code 243 = .ok (.istore 6, 2) := by decide +kernel
theorem dX6_isWayCovered_245 : decode prog_8_method_11_code 245 = .ok (.iinc 9 1, 3) := by decide +kernel
theorem dX6_isWayCovered_248 : decode prog_8_method_11_code 248 = .ok (.goto (-139), 3) := by decide +kernel
theorem dX6_isWayCovered_251 : decode prog_8_method_11_code 251 = .ok (.iinc 8 1, 3) := by decide +kernel
theorem dX6_isWayCovered_254 : decode prog_8_method_11_code 254 = .ok (.goto (-164), 3) := by decide +kernel
theorem dX6_isWayCovered_257 : decode prog_8_method_11_code 257 = .ok (.iload 6, 2) := by decide +kernel
theorem dX6_isWayCovered_259 : decode prog_8_method_11_code 259 = .ok (.iload 7, 2) := by decide +kernel
theorem dX6_isWayCovered_261 : decode prog_8_method_11_code 261 = .ok (.if_icmp .lt 7, 3) := by decide +kernel
theorem dX6_isWayCovered_264 : decode prog_8_method_11_code 264 = .ok (.iconst 1, 1) := by decide +kernel
theorem dX6_isWayCovered_265 : decode prog_8_method_11_code 265 = .ok (.goto 4, 3) := by decide +kernel
theorem dX6_isWayCovered_268 : decode prog_8_method_11_code 268 = .ok (.iconst 0, 1) := by decide +kernel
theorem dX6_isWayCovered_269 : decode prog_8_method_11_code 269 = .ok (.ireturn, 1) := by decide +kernel
theorem dX7_init_0 : decode prog_9_method_1_code 0 = .ok (.aload_n 0, 1) := by decide +kernel
theorem dX7_init_1 : decode prog_9_method_1_code 1 = .ok (.invokespecial 3, 3) := by decide +kernel
theorem dX7_init_4 : decode prog_9_method_1_code 4 = .ok (.aload_n 0, 1) := by decide +kernel
theorem dX7_init_5 : decode prog_9_method_1_code 5 = .ok (.bipush 40, 2) := by decide +kernel
theorem dX7_init_7 : decode prog_9_method_1_code 7 = .ok (.newarray .int, 2) := by decide +kernel
theorem dX7_init_9 : decode prog_9_method_1_code 9 = .ok (.putfield 9, 3) := by decide +kernel
theorem dX7_init_12 : decode prog_9_method_1_code 12 = .ok (.aload_n 0, 1) := by decide +kernel
theorem dX7_init_13 : decode prog_9_method_1_code 13 = .ok (.bipush 40, 2) := by decide +kernel
theorem dX7_init_15 : decode prog_9_method_1_code 15 = .ok (.newarray .int, 2) := by decide +kernel
theorem dX7_init_17 : decode prog_9_method_1_code 17 = .ok (.putfield 15, 3) := by decide +kernel
theorem dX7_init_20 : decode prog_9_method_1_code 20 = .ok (.aload_n 0, 1) := by decide +kernel
theorem dX7_init_21 : decode prog_9_method_1_code 21 = .ok (.bipush 8, 2) := by decide +kernel
theorem dX7_init_23 : decode prog_9_method_1_code 23 = .ok (.newarray .int, 2) := by decide +kernel
theorem dX7_init_25 : decode prog_9_method_1_code 25 = .ok (.putfield 18, 3) := by decide +kernel
theorem dX7_init_28 : decode prog_9_method_1_code 28 = .ok (.aload_n 0, 1) := by decide +kernel
theorem dX7_init_29 : decode prog_9_method_1_code 29 = .ok (.bipush 40, 2) := by decide +kernel
theorem dX7_init_31 : decode prog_9_method_1_code 31 = .ok (.newarray .boolean, 2) := by decide +kernel
theorem dX7_init_33 : decode prog_9_method_1_code 33 = .ok (.putfield 21, 3) := by decide +kernel
theorem dX7_init_36 : decode prog_9_method_1_code 36 = .ok (.return_, 1) := by decide +kernel
theorem dX7_start_0 : decode prog_9_method_2_code 0 = .ok (.aload_n 0, 1) := by decide +kernel
theorem dX7_start_1 : decode prog_9_method_2_code 1 = .ok (.iload_n 1, 1) := by decide +kernel
theorem dX7_start_2 : decode prog_9_method_2_code 2 = .ok (.putfield 25, 3) := by decide +kernel
theorem dX7_start_5 : decode prog_9_method_2_code 5 = .ok (.aload_n 0, 1) := by decide +kernel
theorem dX7_start_6 : decode prog_9_method_2_code 6 = .ok (.iconst 0, 1) := by decide +kernel
theorem dX7_start_7 : decode prog_9_method_2_code 7 = .ok (.putfield 29, 3) := by decide +kernel
theorem dX7_start_10 : decode prog_9_method_2_code 10 = .ok (.aload_n 0, 1) := by decide +kernel
theorem dX7_start_11 : decode prog_9_method_2_code 11 = .ok (.iconst 0, 1) := by decide +kernel
theorem dX7_start_12 : decode prog_9_method_2_code 12 = .ok (.putfield 32, 3) := by decide +kernel
theorem dX7_start_15 : decode prog_9_method_2_code 15 = .ok (.aload_n 0, 1) := by decide +kernel
theorem dX7_start_16 : decode prog_9_method_2_code 16 = .ok (.iconst 0, 1) := by decide +kernel
theorem dX7_start_17 : decode prog_9_method_2_code 17 = .ok (.putfield 35, 3) := by decide +kernel
theorem dX7_start_20 : decode prog_9_method_2_code 20 = .ok (.return_, 1) := by decide +kernel
theorem dX7_addPlace_0 : decode prog_9_method_3_code 0 = .ok (.aload_n 0, 1) := by decide +kernel
theorem dX7_addPlace_1 : decode prog_9_method_3_code 1 = .ok (.getfield 29, 3) := by decide +kernel
theorem dX7_addPlace_4 : decode prog_9_method_3_code 4 = .ok (.bipush 40, 2) := by decide +kernel
theorem dX7_addPlace_6 : decode prog_9_method_3_code 6 = .ok (.if_icmp .lt 9, 3) := by decide +kernel
theorem dX7_addPlace_9 : decode prog_9_method_3_code 9 = .ok (.aload_n 0, 1) := by decide +kernel
theorem dX7_addPlace_10 : decode prog_9_method_3_code 10 = .ok (.iconst 1, 1) := by decide +kernel
theorem dX7_addPlace_11 : decode prog_9_method_3_code 11 = .ok (.putfield 35, 3) := by decide +kernel
theorem dX7_addPlace_14 : decode prog_9_method_3_code 14 = .ok (.return_, 1) := by decide +kernel
theorem dX7_addPlace_15 : decode prog_9_method_3_code 15 = .ok (.aload_n 0, 1) := by decide +kernel
theorem dX7_addPlace_16 : decode prog_9_method_3_code 16 = .ok (.getfield 9, 3) := by decide +kernel
theorem dX7_addPlace_19 : decode prog_9_method_3_code 19 = .ok (.aload_n 0, 1) := by decide +kernel
theorem dX7_addPlace_20 : decode prog_9_method_3_code 20 = .ok (.getfield 29, 3) := by decide +kernel
theorem dX7_addPlace_23 : decode prog_9_method_3_code 23 = .ok (.iload_n 1, 1) := by decide +kernel
theorem dX7_addPlace_24 : decode prog_9_method_3_code 24 = .ok (.iastore, 1) := by decide +kernel
theorem dX7_addPlace_25 : decode prog_9_method_3_code 25 = .ok (.aload_n 0, 1) := by decide +kernel
theorem dX7_addPlace_26 : decode prog_9_method_3_code 26 = .ok (.getfield 15, 3) := by decide +kernel
theorem dX7_addPlace_29 : decode prog_9_method_3_code 29 = .ok (.aload_n 0, 1) := by decide +kernel
theorem dX7_addPlace_30 : decode prog_9_method_3_code 30 = .ok (.getfield 29, 3) := by decide +kernel
theorem dX7_addPlace_33 : decode prog_9_method_3_code 33 = .ok (.iload_n 2, 1) := by decide +kernel
theorem dX7_addPlace_34 : decode prog_9_method_3_code 34 = .ok (.iastore, 1) := by decide +kernel
theorem dX7_addPlace_35 : decode prog_9_method_3_code 35 = .ok (.aload_n 0, 1) := by decide +kernel
theorem dX7_addPlace_36 : decode prog_9_method_3_code 36 = .ok (.getfield 21, 3) := by decide +kernel
theorem dX7_addPlace_39 : decode prog_9_method_3_code 39 = .ok (.aload_n 0, 1) := by decide +kernel
theorem dX7_addPlace_40 : decode prog_9_method_3_code 40 = .ok (.getfield 29, 3) := by decide +kernel
theorem dX7_addPlace_43 : decode prog_9_method_3_code 43 = .ok (.iconst 0, 1) := by decide +kernel
theorem dX7_addPlace_44 : decode prog_9_method_3_code 44 = .ok (.bastore, 1) := by decide +kernel
theorem dX7_addPlace_45 : decode prog_9_method_3_code 45 = .ok (.aload_n 0, 1) := by decide +kernel
theorem dX7_addPlace_46 : decode prog_9_method_3_code 46 = .ok (.dup, 1) := by decide +kernel
theorem dX7_addPlace_47 : decode prog_9_method_3_code 47 = .ok (.getfield 29, 3) := by decide +kernel
theorem dX7_addPlace_50 : decode prog_9_method_3_code 50 = .ok (.iconst 1, 1) := by decide +kernel
theorem dX7_addPlace_51 : decode prog_9_method_3_code 51 = .ok (.iadd, 1) := by decide +kernel
theorem dX7_addPlace_52 : decode prog_9_method_3_code 52 = .ok (.putfield 29, 3) := by decide +kernel
theorem dX7_addPlace_55 : decode prog_9_method_3_code 55 = .ok (.return_, 1) := by decide +kernel
theorem dX7_closeRing_0 : decode prog_9_method_4_code 0 = .ok (.aload_n 0, 1) := by decide +kernel
theorem dX7_closeRing_1 : decode prog_9_method_4_code 1 = .ok (.getfield 32, 3) := by decide +kernel
theorem dX7_closeRing_4 : decode prog_9_method_4_code 4 = .ok (.bipush 8, 2) := by decide +kernel
theorem dX7_closeRing_6 : decode prog_9_method_4_code 6 = .ok (.if_icmp .ge 11, 3) := by decide +kernel
theorem dX7_closeRing_9 : decode prog_9_method_4_code 9 = .ok (.aload_n 0, 1) := by decide +kernel
theorem dX7_closeRing_10 : decode prog_9_method_4_code 10 = .ok (.getfield 29, 3) := by decide +kernel
theorem dX7_closeRing_13 : decode prog_9_method_4_code 13 = .ok (.iconst 1, 1) := by decide +kernel
theorem dX7_closeRing_14 : decode prog_9_method_4_code 14 = .ok (.if_icmp .ge 9, 3) := by decide +kernel
theorem dX7_closeRing_17 : decode prog_9_method_4_code 17 = .ok (.aload_n 0, 1) := by decide +kernel
theorem dX7_closeRing_18 : decode prog_9_method_4_code 18 = .ok (.iconst 1, 1) := by decide +kernel
theorem dX7_closeRing_19 : decode prog_9_method_4_code 19 = .ok (.putfield 35, 3) := by decide +kernel
theorem dX7_closeRing_22 : decode prog_9_method_4_code 22 = .ok (.return_, 1) := by decide +kernel
theorem dX7_closeRing_23 : decode prog_9_method_4_code 23 = .ok (.aload_n 0, 1) := by decide +kernel
theorem dX7_closeRing_24 : decode prog_9_method_4_code 24 = .ok (.getfield 18, 3) := by decide +kernel
theorem dX7_closeRing_27 : decode prog_9_method_4_code 27 = .ok (.aload_n 0, 1) := by decide +kernel
theorem dX7_closeRing_28 : decode prog_9_method_4_code 28 = .ok (.getfield 32, 3) := by decide +kernel
theorem dX7_closeRing_31 : decode prog_9_method_4_code 31 = .ok (.aload_n 0, 1) := by decide +kernel
theorem dX7_closeRing_32 : decode prog_9_method_4_code 32 = .ok (.getfield 29, 3) := by decide +kernel
theorem dX7_closeRing_35 : decode prog_9_method_4_code 35 = .ok (.iastore, 1) := by decide +kernel
theorem dX7_closeRing_36 : decode prog_9_method_4_code 36 = .ok (.aload_n 0, 1) := by decide +kernel
theorem dX7_closeRing_37 : decode prog_9_method_4_code 37 = .ok (.dup, 1) := by decide +kernel
theorem dX7_closeRing_38 : decode prog_9_method_4_code 38 = .ok (.getfield 32, 3) := by decide +kernel
theorem dX7_closeRing_41 : decode prog_9_method_4_code 41 = .ok (.iconst 1, 1) := by decide +kernel
theorem dX7_closeRing_42 : decode prog_9_method_4_code 42 = .ok (.iadd, 1) := by decide +kernel
theorem dX7_closeRing_43 : decode prog_9_method_4_code 43 = .ok (.putfield 32, 3) := by decide +kernel
theorem dX7_closeRing_46 : decode prog_9_method_4_code 46 = .ok (.aload_n 0, 1) := by decide +kernel
theorem dX7_closeRing_47 : decode prog_9_method_4_code 47 = .ok (.getfield 21, 3) := by decide +kernel
theorem dX7_closeRing_50 : decode prog_9_method_4_code 50 = .ok (.aload_n 0, 1) := by decide +kernel
theorem dX7_closeRing_51 : decode prog_9_method_4_code 51 = .ok (.getfield 29, 3) := by decide +kernel
theorem dX7_closeRing_54 : decode prog_9_method_4_code 54 = .ok (.iconst 1, 1) := by decide +kernel
theorem dX7_closeRing_55 : decode prog_9_method_4_code 55 = .ok (.isub, 1) := by decide +kernel
theorem dX7_closeRing_56 : decode prog_9_method_4_code 56 = .ok (.iconst 1, 1) := by decide +kernel
theorem dX7_closeRing_57 : decode prog_9_method_4_code 57 = .ok (.bastore, 1) := by decide +kernel
theorem dX7_closeRing_58 : decode prog_9_method_4_code 58 = .ok (.return_, 1) := by decide +kernel
theorem dX7_finish_0 : decode prog_9_method_5_code 0 = .ok (.aload_n 0, 1) := by decide +kernel
theorem dX7_finish_1 : decode prog_9_method_5_code 1 = .ok (.aload_n 0, 1) := by decide +kernel
theorem dX7_finish_2 : decode prog_9_method_5_code 2 = .ok (.getfield 9, 3) := by decide +kernel
theorem dX7_finish_5 : decode prog_9_method_5_code 5 = .ok (.iconst 0, 1) := by decide +kernel
theorem dX7_finish_6 : decode prog_9_method_5_code 6 = .ok (.iaload, 1) := by decide +kernel
theorem dX7_finish_7 : decode prog_9_method_5_code 7 = .ok (.putfield 39, 3) := by decide +kernel
theorem dX7_finish_10 : decode prog_9_method_5_code 10 = .ok (.aload_n 0, 1) := by decide +kernel
theorem dX7_finish_11 : decode prog_9_method_5_code 11 = .ok (.aload_n 0, 1) := by decide +kernel
theorem dX7_finish_12 : decode prog_9_method_5_code 12 = .ok (.getfield 9, 3) := by decide +kernel
theorem dX7_finish_15 : decode prog_9_method_5_code 15 = .ok (.iconst 0, 1) := by decide +kernel
theorem dX7_finish_16 : decode prog_9_method_5_code 16 = .ok (.iaload, 1) := by decide +kernel
theorem dX7_finish_17 : decode prog_9_method_5_code 17 = .ok (.putfield 42, 3) := by decide +kernel
theorem dX7_finish_20 : decode prog_9_method_5_code 20 = .ok (.aload_n 0, 1) := by decide +kernel
theorem dX7_finish_21 : decode prog_9_method_5_code 21 = .ok (.aload_n 0, 1) := by decide +kernel
theorem dX7_finish_22 : decode prog_9_method_5_code 22 = .ok (.getfield 15, 3) := by decide +kernel
theorem dX7_finish_25 : decode prog_9_method_5_code 25 = .ok (.iconst 0, 1) := by decide +kernel
theorem dX7_finish_26 : decode prog_9_method_5_code 26 = .ok (.iaload, 1) := by decide +kernel
theorem dX7_finish_27 : decode prog_9_method_5_code 27 = .ok (.putfield 45, 3) := by decide +kernel
theorem dX7_finish_30 : decode prog_9_method_5_code 30 = .ok (.aload_n 0, 1) := by decide +kernel
theorem dX7_finish_31 : decode prog_9_method_5_code 31 = .ok (.aload_n 0, 1) := by decide +kernel
theorem dX7_finish_32 : decode prog_9_method_5_code 32 = .ok (.getfield 15, 3) := by decide +kernel
theorem dX7_finish_35 : decode prog_9_method_5_code 35 = .ok (.iconst 0, 1) := by decide +kernel
theorem dX7_finish_36 : decode prog_9_method_5_code 36 = .ok (.iaload, 1) := by decide +kernel
theorem dX7_finish_37 : decode prog_9_method_5_code 37 = .ok (.putfield 48, 3) := by decide +kernel
theorem dX7_finish_40 : decode prog_9_method_5_code 40 = .ok (.iconst 1, 1) := by decide +kernel
theorem dX7_finish_41 : decode prog_9_method_5_code 41 = .ok (.istore_n 1, 1) := by decide +kernel
theorem dX7_finish_42 : decode prog_9_method_5_code 42 = .ok (.iload_n 1, 1) := by decide +kernel
theorem dX7_finish_43 : decode prog_9_method_5_code 43 = .ok (.aload_n 0, 1) := by decide +kernel
theorem dX7_finish_44 : decode prog_9_method_5_code 44 = .ok (.getfield 29, 3) := by decide +kernel
theorem dX7_finish_47 : decode prog_9_method_5_code 47 = .ok (.if_icmp .ge 77, 3) := by decide +kernel
theorem dX7_finish_50 : decode prog_9_method_5_code 50 = .ok (.aload_n 0, 1) := by decide +kernel
theorem dX7_finish_51 : decode prog_9_method_5_code 51 = .ok (.aload_n 0, 1) := by decide +kernel
theorem dX7_finish_52 : decode prog_9_method_5_code 52 = .ok (.getfield 39, 3) := by decide +kernel
theorem dX7_finish_55 : decode prog_9_method_5_code 55 = .ok (.aload_n 0, 1) := by decide +kernel
theorem dX7_finish_56 : decode prog_9_method_5_code 56 = .ok (.getfield 9, 3) := by decide +kernel
theorem dX7_finish_59 : decode prog_9_method_5_code 59 = .ok (.iload_n 1, 1) := by decide +kernel
theorem dX7_finish_60 : decode prog_9_method_5_code 60 = .ok (.iaload, 1) := by decide +kernel
theorem dX7_finish_61 : decode prog_9_method_5_code 61 = .ok (.invokestatic 51, 3) := by decide +kernel
theorem dX7_finish_64 : decode prog_9_method_5_code 64 = .ok (.putfield 39, 3) := by decide +kernel
theorem dX7_finish_67 : decode prog_9_method_5_code 67 = .ok (.aload_n 0, 1) := by decide +kernel
theorem dX7_finish_68 : decode prog_9_method_5_code 68 = .ok (.aload_n 0, 1) := by decide +kernel
theorem dX7_finish_69 : decode prog_9_method_5_code 69 = .ok (.getfield 42, 3) := by decide +kernel
theorem dX7_finish_72 : decode prog_9_method_5_code 72 = .ok (.aload_n 0, 1) := by decide +kernel
theorem dX7_finish_73 : decode prog_9_method_5_code 73 = .ok (.getfield 9, 3) := by decide +kernel
theorem dX7_finish_76 : decode prog_9_method_5_code 76 = .ok (.iload_n 1, 1) := by decide +kernel
theorem dX7_finish_77 : decode prog_9_method_5_code 77 = .ok (.iaload, 1) := by decide +kernel
theorem dX7_finish_78 : decode prog_9_method_5_code 78 = .ok (.invokestatic 57, 3) := by decide +kernel
theorem dX7_finish_81 : decode prog_9_method_5_code 81 = .ok (.putfield 42, 3) := by decide +kernel
theorem dX7_finish_84 : decode prog_9_method_5_code 84 = .ok (.aload_n 0, 1) := by decide +kernel
theorem dX7_finish_85 : decode prog_9_method_5_code 85 = .ok (.aload_n 0, 1) := by decide +kernel
theorem dX7_finish_86 : decode prog_9_method_5_code 86 = .ok (.getfield 45, 3) := by decide +kernel
theorem dX7_finish_89 : decode prog_9_method_5_code 89 = .ok (.aload_n 0, 1) := by decide +kernel
theorem dX7_finish_90 : decode prog_9_method_5_code 90 = .ok (.getfield 15, 3) := by decide +kernel
theorem dX7_finish_93 : decode prog_9_method_5_code 93 = .ok (.iload_n 1, 1) := by decide +kernel
theorem dX7_finish_94 : decode prog_9_method_5_code 94 = .ok (.iaload, 1) := by decide +kernel
theorem dX7_finish_95 : decode prog_9_method_5_code 95 = .ok (.invokestatic 51, 3) := by decide +kernel
theorem dX7_finish_98 : decode prog_9_method_5_code 98 = .ok (.putfield 45, 3) := by decide +kernel
theorem dX7_finish_101 : decode prog_9_method_5_code 101 = .ok (.aload_n 0, 1) := by decide +kernel
theorem dX7_finish_102 : decode prog_9_method_5_code 102 = .ok (.aload_n 0, 1) := by decide +kernel
theorem dX7_finish_103 : decode prog_9_method_5_code 103 = .ok (.getfield 48, 3) := by decide +kernel
theorem dX7_finish_106 : decode prog_9_method_5_code 106 = .ok (.aload_n 0, 1) := by decide +kernel
theorem dX7_finish_107 : decode prog_9_method_5_code 107 = .ok (.getfield 15, 3) := by decide +kernel
theorem dX7_finish_110 : decode prog_9_method_5_code 110 = .ok (.iload_n 1, 1) := by decide +kernel
theorem dX7_finish_111 : decode prog_9_method_5_code 111 = .ok (.iaload, 1) := by decide +kernel
theorem dX7_finish_112 : decode prog_9_method_5_code 112 = .ok (.invokestatic 57, 3) := by decide +kernel
theorem dX7_finish_115 : decode prog_9_method_5_code 115 = .ok (.putfield 48, 3) := by decide +kernel
theorem dX7_finish_118 : decode prog_9_method_5_code 118 = .ok (.iinc 1 1, 3) := by decide +kernel
theorem dX7_finish_121 : decode prog_9_method_5_code 121 = .ok (.goto (-79), 3) := by decide +kernel
theorem dX7_finish_124 : decode prog_9_method_5_code 124 = .ok (.return_, 1) := by decide +kernel
theorem dX7_ringStart_0 : decode prog_9_method_6_code 0 = .ok (.iload_n 1, 1) := by decide +kernel
theorem dX7_ringStart_1 : decode prog_9_method_6_code 1 = .ok (.iconst 1, 1) := by decide +kernel
theorem dX7_ringStart_2 : decode prog_9_method_6_code 2 = .ok (.if_icmp .lt 11, 3) := by decide +kernel
theorem dX7_ringStart_5 : decode prog_9_method_6_code 5 = .ok (.iload_n 1, 1) := by decide +kernel
theorem dX7_ringStart_6 : decode prog_9_method_6_code 6 = .ok (.aload_n 0, 1) := by decide +kernel
theorem dX7_ringStart_7 : decode prog_9_method_6_code 7 = .ok (.getfield 32, 3) := by decide +kernel
theorem dX7_ringStart_10 : decode prog_9_method_6_code 10 = .ok (.if_icmp .le 7, 3) := by decide +kernel
theorem dX7_ringStart_13 : decode prog_9_method_6_code 13 = .ok (.iconst 0, 1) := by decide +kernel
theorem dX7_ringStart_14 : decode prog_9_method_6_code 14 = .ok (.goto 11, 3) := by decide +kernel
theorem dX7_ringStart_17 : decode prog_9_method_6_code 17 = .ok (.aload_n 0, 1) := by decide +kernel
theorem dX7_ringStart_18 : decode prog_9_method_6_code 18 = .ok (.getfield 18, 3) := by decide +kernel
theorem dX7_ringStart_21 : decode prog_9_method_6_code 21 = .ok (.iload_n 1, 1) := by decide +kernel
theorem dX7_ringStart_22 : decode prog_9_method_6_code 22 = .ok (.iconst 1, 1) := by decide +kernel
theorem dX7_ringStart_23 : decode prog_9_method_6_code 23 = .ok (.isub, 1) := by decide +kernel
theorem dX7_ringStart_24 : decode prog_9_method_6_code 24 = .ok (.iaload, 1) := by decide +kernel
theorem dX7_ringStart_25 : decode prog_9_method_6_code 25 = .ok (.ireturn, 1) := by decide +kernel
theorem dX7_isAlike_0 : decode prog_9_method_7_code 0 = .ok (.aload_n 0, 1) := by decide +kernel
theorem dX7_isAlike_1 : decode prog_9_method_7_code 1 = .ok (.getfield 9, 3) := by decide +kernel
theorem dX7_isAlike_4 : decode prog_9_method_7_code 4 = .ok (.iload_n 1, 1) := by decide +kernel
theorem dX7_isAlike_5 : decode prog_9_method_7_code 5 = .ok (.iaload, 1) := by decide +kernel
theorem dX7_isAlike_6 : decode prog_9_method_7_code 6 = .ok (.aload_n 0, 1) := by decide +kernel
theorem dX7_isAlike_7 : decode prog_9_method_7_code 7 = .ok (.getfield 9, 3) := by decide +kernel
theorem dX7_isAlike_10 : decode prog_9_method_7_code 10 = .ok (.iload_n 2, 1) := by decide +kernel
theorem dX7_isAlike_11 : decode prog_9_method_7_code 11 = .ok (.iaload, 1) := by decide +kernel
theorem dX7_isAlike_12 : decode prog_9_method_7_code 12 = .ok (.if_icmp .ne 22, 3) := by decide +kernel
theorem dX7_isAlike_15 : decode prog_9_method_7_code 15 = .ok (.aload_n 0, 1) := by decide +kernel
theorem dX7_isAlike_16 : decode prog_9_method_7_code 16 = .ok (.getfield 15, 3) := by decide +kernel
theorem dX7_isAlike_19 : decode prog_9_method_7_code 19 = .ok (.iload_n 1, 1) := by decide +kernel
theorem dX7_isAlike_20 : decode prog_9_method_7_code 20 = .ok (.iaload, 1) := by decide +kernel
theorem dX7_isAlike_21 : decode prog_9_method_7_code 21 = .ok (.aload_n 0, 1) := by decide +kernel
theorem dX7_isAlike_22 : decode prog_9_method_7_code 22 = .ok (.getfield 15, 3) := by decide +kernel
theorem dX7_isAlike_25 : decode prog_9_method_7_code 25 = .ok (.iload_n 2, 1) := by decide +kernel
theorem dX7_isAlike_26 : decode prog_9_method_7_code 26 = .ok (.iaload, 1) := by decide +kernel
theorem dX7_isAlike_27 : decode prog_9_method_7_code 27 = .ok (.if_icmp .ne 7, 3) := by decide +kernel
theorem dX7_isAlike_30 : decode prog_9_method_7_code 30 = .ok (.iconst 1, 1) := by decide +kernel
theorem dX7_isAlike_31 : decode prog_9_method_7_code 31 = .ok (.goto 4, 3) := by decide +kernel
theorem dX7_isAlike_34 : decode prog_9_method_7_code 34 = .ok (.iconst 0, 1) := by decide +kernel
theorem dX7_isAlike_35 : decode prog_9_method_7_code 35 = .ok (.ireturn, 1) := by decide +kernel
theorem dX7_canMove_0 : decode prog_9_method_8_code 0 = .ok (.aload_n 0, 1) := by decide +kernel
theorem dX7_canMove_1 : decode prog_9_method_8_code 1 = .ok (.getfield 39, 3) := by decide +kernel
theorem dX7_canMove_4 : decode prog_9_method_8_code 4 = .ok (.i2l, 1) := by decide +kernel
theorem dX7_canMove_5 : decode prog_9_method_8_code 5 = .ok (.lload_n 1, 1) := by decide +kernel
theorem dX7_canMove_6 : decode prog_9_method_8_code 6 = .ok (.ladd, 1) := by decide +kernel
theorem dX7_canMove_7 : decode prog_9_method_8_code 7 = .ok (.invokestatic 60, 3) := by decide +kernel
theorem dX7_canMove_10 : decode prog_9_method_8_code 10 = .ok (.ifCond .eq 46, 3) := by decide +kernel
theorem dX7_canMove_13 : decode prog_9_method_8_code 13 = .ok (.aload_n 0, 1) := by decide +kernel
theorem dX7_canMove_14 : decode prog_9_method_8_code 14 = .ok (.getfield 42, 3) := by decide +kernel
theorem dX7_canMove_17 : decode prog_9_method_8_code 17 = .ok (.i2l, 1) := by decide +kernel
theorem dX7_canMove_18 : decode prog_9_method_8_code 18 = .ok (.lload_n 1, 1) := by decide +kernel
theorem dX7_canMove_19 : decode prog_9_method_8_code 19 = .ok (.ladd, 1) := by decide +kernel
theorem dX7_canMove_20 : decode prog_9_method_8_code 20 = .ok (.invokestatic 60, 3) := by decide +kernel
theorem dX7_canMove_23 : decode prog_9_method_8_code 23 = .ok (.ifCond .eq 33, 3) := by decide +kernel
theorem dX7_canMove_26 : decode prog_9_method_8_code 26 = .ok (.aload_n 0, 1) := by decide +kernel
theorem dX7_canMove_27 : decode prog_9_method_8_code 27 = .ok (.getfield 45, 3) := by decide +kernel
theorem dX7_canMove_30 : decode prog_9_method_8_code 30 = .ok (.i2l, 1) := by decide +kernel
theorem dX7_canMove_31 : decode prog_9_method_8_code 31 = .ok (.lload_n 3, 1) := by decide +kernel
theorem dX7_canMove_32 : decode prog_9_method_8_code 32 = .ok (.ladd, 1) := by decide +kernel
theorem dX7_canMove_33 : decode prog_9_method_8_code 33 = .ok (.invokestatic 60, 3) := by decide +kernel
theorem dX7_canMove_36 : decode prog_9_method_8_code 36 = .ok (.ifCond .eq 20, 3) := by decide +kernel
theorem dX7_canMove_39 : decode prog_9_method_8_code 39 = .ok (.aload_n 0, 1) := by decide +kernel
theorem dX7_canMove_40 : decode prog_9_method_8_code 40 = .ok (.getfield 48, 3) := by decide +kernel
theorem dX7_canMove_43 : decode prog_9_method_8_code 43 = .ok (.i2l, 1) := by decide +kernel
theorem dX7_canMove_44 : decode prog_9_method_8_code 44 = .ok (.lload_n 3, 1) := by decide +kernel
theorem dX7_canMove_45 : decode prog_9_method_8_code 45 = .ok (.ladd, 1) := by decide +kernel
theorem dX7_canMove_46 : decode prog_9_method_8_code 46 = .ok (.invokestatic 60, 3) := by decide +kernel
theorem dX7_canMove_49 : decode prog_9_method_8_code 49 = .ok (.ifCond .eq 7, 3) := by decide +kernel
theorem dX7_canMove_52 : decode prog_9_method_8_code 52 = .ok (.iconst 1, 1) := by decide +kernel
theorem dX7_canMove_53 : decode prog_9_method_8_code 53 = .ok (.goto 4, 3) := by decide +kernel
theorem dX7_canMove_56 : decode prog_9_method_8_code 56 = .ok (.iconst 0, 1) := by decide +kernel
theorem dX7_canMove_57 : decode prog_9_method_8_code 57 = .ok (.ireturn, 1) := by decide +kernel
theorem dX7_isBoxApart_0 : decode prog_9_method_9_code 0 = .ok (.aload_n 0, 1) := by decide +kernel
theorem dX7_isBoxApart_1 : decode prog_9_method_9_code 1 = .ok (.getfield 42, 3) := by decide +kernel
theorem dX7_isBoxApart_4 : decode prog_9_method_9_code 4 = .ok (.aload_n 1, 1) := by decide +kernel
theorem dX7_isBoxApart_5 : decode prog_9_method_9_code 5 = .ok (.getfield 39, 3) := by decide +kernel
theorem dX7_isBoxApart_8 : decode prog_9_method_9_code 8 = .ok (.if_icmp .lt 36, 3) := by decide +kernel
theorem dX7_isBoxApart_11 : decode prog_9_method_9_code 11 = .ok (.aload_n 1, 1) := by decide +kernel
theorem dX7_isBoxApart_12 : decode prog_9_method_9_code 12 = .ok (.getfield 42, 3) := by decide +kernel
theorem dX7_isBoxApart_15 : decode prog_9_method_9_code 15 = .ok (.aload_n 0, 1) := by decide +kernel
theorem dX7_isBoxApart_16 : decode prog_9_method_9_code 16 = .ok (.getfield 39, 3) := by decide +kernel
theorem dX7_isBoxApart_19 : decode prog_9_method_9_code 19 = .ok (.if_icmp .lt 25, 3) := by decide +kernel
theorem dX7_isBoxApart_22 : decode prog_9_method_9_code 22 = .ok (.aload_n 0, 1) := by decide +kernel
theorem dX7_isBoxApart_23 : decode prog_9_method_9_code 23 = .ok (.getfield 48, 3) := by decide +kernel
theorem dX7_isBoxApart_26 : decode prog_9_method_9_code 26 = .ok (.aload_n 1, 1) := by decide +kernel
theorem dX7_isBoxApart_27 : decode prog_9_method_9_code 27 = .ok (.getfield 45, 3) := by decide +kernel
theorem dX7_isBoxApart_30 : decode prog_9_method_9_code 30 = .ok (.if_icmp .lt 14, 3) := by decide +kernel
theorem dX7_isBoxApart_33 : decode prog_9_method_9_code 33 = .ok (.aload_n 1, 1) := by decide +kernel
theorem dX7_isBoxApart_34 : decode prog_9_method_9_code 34 = .ok (.getfield 48, 3) := by decide +kernel
theorem dX7_isBoxApart_37 : decode prog_9_method_9_code 37 = .ok (.aload_n 0, 1) := by decide +kernel
theorem dX7_isBoxApart_38 : decode prog_9_method_9_code 38 = .ok (.getfield 45, 3) := by decide +kernel
theorem dX7_isBoxApart_41 : decode prog_9_method_9_code 41 = .ok (.if_icmp .ge 7, 3) := by decide +kernel
theorem dX7_isBoxApart_44 : decode prog_9_method_9_code 44 = .ok (.iconst 1, 1) := by decide +kernel
theorem dX7_isBoxApart_45 : decode prog_9_method_9_code 45 = .ok (.goto 4, 3) := by decide +kernel
theorem dX7_isBoxApart_48 : decode prog_9_method_9_code 48 = .ok (.iconst 0, 1) := by decide +kernel
theorem dX7_isBoxApart_49 : decode prog_9_method_9_code 49 = .ok (.ireturn, 1) := by decide +kernel
theorem dX7_isBoxWithin_0 : decode prog_9_method_10_code 0 = .ok (.aload_n 0, 1) := by decide +kernel
theorem dX7_isBoxWithin_1 : decode prog_9_method_10_code 1 = .ok (.getfield 39, 3) := by decide +kernel
theorem dX7_isBoxWithin_4 : decode prog_9_method_10_code 4 = .ok (.aload_n 1, 1) := by decide +kernel
theorem dX7_isBoxWithin_5 : decode prog_9_method_10_code 5 = .ok (.getfield 39, 3) := by decide +kernel
theorem dX7_isBoxWithin_8 : decode prog_9_method_10_code 8 = .ok (.if_icmp .lt 40, 3) := by decide +kernel
theorem dX7_isBoxWithin_11 : decode prog_9_method_10_code 11 = .ok (.aload_n 0, 1) := by decide +kernel
theorem dX7_isBoxWithin_12 : decode prog_9_method_10_code 12 = .ok (.getfield 42, 3) := by decide +kernel
theorem dX7_isBoxWithin_15 : decode prog_9_method_10_code 15 = .ok (.aload_n 1, 1) := by decide +kernel
theorem dX7_isBoxWithin_16 : decode prog_9_method_10_code 16 = .ok (.getfield 42, 3) := by decide +kernel
theorem dX7_isBoxWithin_19 : decode prog_9_method_10_code 19 = .ok (.if_icmp .gt 29, 3) := by decide +kernel
theorem dX7_isBoxWithin_22 : decode prog_9_method_10_code 22 = .ok (.aload_n 0, 1) := by decide +kernel
theorem dX7_isBoxWithin_23 : decode prog_9_method_10_code 23 = .ok (.getfield 45, 3) := by decide +kernel
theorem dX7_isBoxWithin_26 : decode prog_9_method_10_code 26 = .ok (.aload_n 1, 1) := by decide +kernel
theorem dX7_isBoxWithin_27 : decode prog_9_method_10_code 27 = .ok (.getfield 45, 3) := by decide +kernel
theorem dX7_isBoxWithin_30 : decode prog_9_method_10_code 30 = .ok (.if_icmp .lt 18, 3) := by decide +kernel
theorem dX7_isBoxWithin_33 : decode prog_9_method_10_code 33 = .ok (.aload_n 0, 1) := by decide +kernel
theorem dX7_isBoxWithin_34 : decode prog_9_method_10_code 34 = .ok (.getfield 48, 3) := by decide +kernel
theorem dX7_isBoxWithin_37 : decode prog_9_method_10_code 37 = .ok (.aload_n 1, 1) := by decide +kernel
theorem dX7_isBoxWithin_38 : decode prog_9_method_10_code 38 = .ok (.getfield 48, 3) := by decide +kernel
theorem dX7_isBoxWithin_41 : decode prog_9_method_10_code 41 = .ok (.if_icmp .gt 7, 3) := by decide +kernel
theorem dX7_isBoxWithin_44 : decode prog_9_method_10_code 44 = .ok (.iconst 1, 1) := by decide +kernel
theorem dX7_isBoxWithin_45 : decode prog_9_method_10_code 45 = .ok (.goto 4, 3) := by decide +kernel
theorem dX7_isBoxWithin_48 : decode prog_9_method_10_code 48 = .ok (.iconst 0, 1) := by decide +kernel
theorem dX7_isBoxWithin_49 : decode prog_9_method_10_code 49 = .ok (.ireturn, 1) := by decide +kernel
theorem dX7_copyMoved_0 : decode prog_9_method_11_code 0 = .ok (.aload_n 0, 1) := by decide +kernel
theorem dX7_copyMoved_1 : decode prog_9_method_11_code 1 = .ok (.aload_n 1, 1) := by decide +kernel
theorem dX7_copyMoved_2 : decode prog_9_method_11_code 2 = .ok (.getfield 25, 3) := by decide +kernel
theorem dX7_copyMoved_5 : decode prog_9_method_11_code 5 = .ok (.invokevirtual 64, 3) := by decide +kernel
theorem dX7_copyMoved_8 : decode prog_9_method_11_code 8 = .ok (.iconst 0, 1) := by decide +kernel
theorem dX7_copyMoved_9 : decode prog_9_method_11_code 9 = .ok (.istore 4, 2) := by decide +kernel
theorem dX7_copyMoved_11 : decode prog_9_method_11_code 11 = .ok (.iconst 0, 1) := by decide +kernel
theorem dX7_copyMoved_12 : decode prog_9_method_11_code 12 = .ok (.istore 5, 2) := by decide +kernel
theorem dX7_copyMoved_14 : decode prog_9_method_11_code 14 = .ok (.iload 5, 2) := by decide +kernel
theorem dX7_copyMoved_16 : decode prog_9_method_11_code 16 = .ok (.aload_n 1, 1) := by decide +kernel
theorem dX7_copyMoved_17 : decode prog_9_method_11_code 17 = .ok (.getfield 29, 3) := by decide +kernel
theorem dX7_copyMoved_20 : decode prog_9_method_11_code 20 = .ok (.if_icmp .ge 61, 3) := by decide +kernel
theorem dX7_copyMoved_23 : decode prog_9_method_11_code 23 = .ok (.aload_n 0, 1) := by decide +kernel
theorem dX7_copyMoved_24 : decode prog_9_method_11_code 24 = .ok (.aload_n 1, 1) := by decide +kernel
theorem dX7_copyMoved_25 : decode prog_9_method_11_code 25 = .ok (.getfield 9, 3) := by decide +kernel
theorem dX7_copyMoved_28 : decode prog_9_method_11_code 28 = .ok (.iload 5, 2) := by decide +kernel
theorem dX7_copyMoved_30 : decode prog_9_method_11_code 30 = .ok (.iaload, 1) := by decide +kernel
theorem dX7_copyMoved_31 : decode prog_9_method_11_code 31 = .ok (.iload_n 2, 1) := by decide +kernel
theorem dX7_copyMoved_32 : decode prog_9_method_11_code 32 = .ok (.iadd, 1) := by decide +kernel
theorem dX7_copyMoved_33 : decode prog_9_method_11_code 33 = .ok (.aload_n 1, 1) := by decide +kernel
theorem dX7_copyMoved_34 : decode prog_9_method_11_code 34 = .ok (.getfield 15, 3) := by decide +kernel
theorem dX7_copyMoved_37 : decode prog_9_method_11_code 37 = .ok (.iload 5, 2) := by decide +kernel
theorem dX7_copyMoved_39 : decode prog_9_method_11_code 39 = .ok (.iaload, 1) := by decide +kernel
theorem dX7_copyMoved_40 : decode prog_9_method_11_code 40 = .ok (.iload_n 3, 1) := by decide +kernel
theorem dX7_copyMoved_41 : decode prog_9_method_11_code 41 = .ok (.iadd, 1) := by decide +kernel
theorem dX7_copyMoved_42 : decode prog_9_method_11_code 42 = .ok (.invokevirtual 68, 3) := by decide +kernel
theorem dX7_copyMoved_45 : decode prog_9_method_11_code 45 = .ok (.iload 4, 2) := by decide +kernel
theorem dX7_copyMoved_47 : decode prog_9_method_11_code 47 = .ok (.aload_n 1, 1) := by decide +kernel
theorem dX7_copyMoved_48 : decode prog_9_method_11_code 48 = .ok (.getfield 32, 3) := by decide +kernel
theorem dX7_copyMoved_51 : decode prog_9_method_11_code 51 = .ok (.if_icmp .ge 24, 3) := by decide +kernel
theorem dX7_copyMoved_54 : decode prog_9_method_11_code 54 = .ok (.aload_n 1, 1) := by decide +kernel
theorem dX7_copyMoved_55 : decode prog_9_method_11_code 55 = .ok (.getfield 18, 3) := by decide +kernel
theorem dX7_copyMoved_58 : decode prog_9_method_11_code 58 = .ok (.iload 4, 2) := by decide +kernel
theorem dX7_copyMoved_60 : decode prog_9_method_11_code 60 = .ok (.iaload, 1) := by decide +kernel
theorem dX7_copyMoved_61 : decode prog_9_method_11_code 61 = .ok (.iload 5, 2) := by decide +kernel
theorem dX7_copyMoved_63 : decode prog_9_method_11_code 63 = .ok (.iconst 1, 1) := by decide +kernel
theorem dX7_copyMoved_64 : decode prog_9_method_11_code 64 = .ok (.iadd, 1) := by decide +kernel
theorem dX7_copyMoved_65 : decode prog_9_method_11_code 65 = .ok (.if_icmp .ne 10, 3) := by decide +kernel
theorem dX7_copyMoved_68 : decode prog_9_method_11_code 68 = .ok (.aload_n 0, 1) := by decide +kernel
theorem dX7_copyMoved_69 : decode prog_9_method_11_code 69 = .ok (.invokevirtual 72, 3) := by decide +kernel
theorem dX7_copyMoved_72 : decode prog_9_method_11_code 72 = .ok (.iinc 4 1, 3) := by decide +kernel
theorem dX7_copyMoved_75 : decode prog_9_method_11_code 75 = .ok (.iinc 5 1, 3) := by decide +kernel
theorem dX7_copyMoved_78 : decode prog_9_method_11_code 78 = .ok (.goto (-64), 3) := by decide +kernel
theorem dX7_copyMoved_81 : decode prog_9_method_11_code 81 = .ok (.aload_n 0, 1) := by decide +kernel
theorem dX7_copyMoved_82 : decode prog_9_method_11_code 82 = .ok (.invokevirtual 75, 3) := by decide +kernel
theorem dX7_copyMoved_85 : decode prog_9_method_11_code 85 = .ok (.return_, 1) := by decide +kernel
theorem dX8_init_0 : decode prog_10_method_1_code 0 = .ok (.aload_n 0, 1) := by decide +kernel
theorem dX8_init_1 : decode prog_10_method_1_code 1 = .ok (.invokespecial 3, 3) := by decide +kernel
theorem dX8_init_4 : decode prog_10_method_1_code 4 = .ok (.aload_n 0, 1) := by decide +kernel
theorem dX8_init_5 : decode prog_10_method_1_code 5 = .ok (.sipush 200, 3) := by decide +kernel
theorem dX8_init_8 : decode prog_10_method_1_code 8 = .ok (.newarray .int, 2) := by decide +kernel
theorem dX8_init_10 : decode prog_10_method_1_code 10 = .ok (.putfield 9, 3) := by decide +kernel
theorem dX8_init_13 : decode prog_10_method_1_code 13 = .ok (.aload_n 0, 1) := by decide +kernel
theorem dX8_init_14 : decode prog_10_method_1_code 14 = .ok (.sipush 200, 3) := by decide +kernel
theorem dX8_init_17 : decode prog_10_method_1_code 17 = .ok (.anewarray 15, 3) := by decide +kernel
theorem dX8_init_20 : decode prog_10_method_1_code 20 = .ok (.putfield 17, 3) := by decide +kernel
theorem dX8_init_23 : decode prog_10_method_1_code 23 = .ok (.aload_n 0, 1) := by decide +kernel
theorem dX8_init_24 : decode prog_10_method_1_code 24 = .ok (.iconst 0, 1) := by decide +kernel
theorem dX8_init_25 : decode prog_10_method_1_code 25 = .ok (.putfield 21, 3) := by decide +kernel
theorem dX8_init_28 : decode prog_10_method_1_code 28 = .ok (.return_, 1) := by decide +kernel
theorem dX8_indexOf_0 : decode prog_10_method_2_code 0 = .ok (.iconst 0, 1) := by decide +kernel
theorem dX8_indexOf_1 : decode prog_10_method_2_code 1 = .ok (.istore_n 2, 1) := by decide +kernel
theorem dX8_indexOf_2 : decode prog_10_method_2_code 2 = .ok (.iload_n 2, 1) := by decide +kernel
theorem dX8_indexOf_3 : decode prog_10_method_2_code 3 = .ok (.aload_n 0, 1) := by decide +kernel
theorem dX8_indexOf_4 : decode prog_10_method_2_code 4 = .ok (.getfield 21, 3) := by decide +kernel
theorem dX8_indexOf_7 : decode prog_10_method_2_code 7 = .ok (.if_icmp .ge 21, 3) := by decide +kernel
theorem dX8_indexOf_10 : decode prog_10_method_2_code 10 = .ok (.aload_n 0, 1) := by decide +kernel
theorem dX8_indexOf_11 : decode prog_10_method_2_code 11 = .ok (.getfield 9, 3) := by decide +kernel
theorem dX8_indexOf_14 : decode prog_10_method_2_code 14 = .ok (.iload_n 2, 1) := by decide +kernel
theorem dX8_indexOf_15 : decode prog_10_method_2_code 15 = .ok (.iaload, 1) := by decide +kernel
theorem dX8_indexOf_16 : decode prog_10_method_2_code 16 = .ok (.iload_n 1, 1) := by decide +kernel
theorem dX8_indexOf_17 : decode prog_10_method_2_code 17 = .ok (.if_icmp .ne 5, 3) := by decide +kernel
theorem dX8_indexOf_20 : decode prog_10_method_2_code 20 = .ok (.iload_n 2, 1) := by decide +kernel
theorem dX8_indexOf_21 : decode prog_10_method_2_code 21 = .ok (.ireturn, 1) := by decide +kernel
theorem dX8_indexOf_22 : decode prog_10_method_2_code 22 = .ok (.iinc 2 1, 3) := by decide +kernel
theorem dX8_indexOf_25 : decode prog_10_method_2_code 25 = .ok (.goto (-23), 3) := by decide +kernel
theorem dX8_indexOf_28 : decode prog_10_method_2_code 28 = .ok (.iconst (-1), 1) := by decide +kernel
theorem dX8_indexOf_29 : decode prog_10_method_2_code 29 = .ok (.ireturn, 1) := by decide +kernel
theorem dX8_shapeWith_0 : decode prog_10_method_3_code 0 = .ok (.aload_n 0, 1) := by decide +kernel
theorem dX8_shapeWith_1 : decode prog_10_method_3_code 1 = .ok (.iload_n 1, 1) := by decide +kernel
theorem dX8_shapeWith_2 : decode prog_10_method_3_code 2 = .ok (.invokevirtual 25, 3) := by decide +kernel
theorem dX8_shapeWith_5 : decode prog_10_method_3_code 5 = .ok (.istore_n 2, 1) := by decide +kernel
theorem dX8_shapeWith_6 : decode prog_10_method_3_code 6 = .ok (.iload_n 2, 1) := by decide +kernel
theorem dX8_shapeWith_7 : decode prog_10_method_3_code 7 = .ok (.ifCond .ge 7, 3) := by decide +kernel
theorem dX8_shapeWith_10 : decode prog_10_method_3_code 10 = .ok (.aconst_null, 1) := by decide +kernel
theorem dX8_shapeWith_11 : decode prog_10_method_3_code 11 = .ok (.goto 9, 3) := by decide +kernel
theorem dX8_shapeWith_14 : decode prog_10_method_3_code 14 = .ok (.aload_n 0, 1) := by decide +kernel
theorem dX8_shapeWith_15 : decode prog_10_method_3_code 15 = .ok (.getfield 17, 3) := by decide +kernel
theorem dX8_shapeWith_18 : decode prog_10_method_3_code 18 = .ok (.iload_n 2, 1) := by decide +kernel
theorem dX8_shapeWith_19 : decode prog_10_method_3_code 19 = .ok (.aaload, 1) := by decide +kernel
theorem dX8_shapeWith_20 : decode prog_10_method_3_code 20 = .ok (.areturn, 1) := by decide +kernel
theorem dX8_insert_0 : decode prog_10_method_4_code 0 = .ok (.aload_n 0, 1) := by decide +kernel
theorem dX8_insert_1 : decode prog_10_method_4_code 1 = .ok (.getfield 21, 3) := by decide +kernel
theorem dX8_insert_4 : decode prog_10_method_4_code 4 = .ok (.sipush 200, 3) := by decide +kernel
theorem dX8_insert_7 : decode prog_10_method_4_code 7 = .ok (.if_icmp .lt 4, 3) := by decide +kernel
theorem dX8_insert_10 : decode prog_10_method_4_code 10 = .ok (.return_, 1) := by decide +kernel
theorem dX8_insert_11 : decode prog_10_method_4_code 11 = .ok (.aload_n 0, 1) := by decide +kernel
theorem dX8_insert_12 : decode prog_10_method_4_code 12 = .ok (.getfield 21, 3) := by decide +kernel
theorem dX8_insert_15 : decode prog_10_method_4_code 15 = .ok (.istore_n 3, 1) := by decide +kernel
theorem dX8_insert_16 : decode prog_10_method_4_code 16 = .ok (.iload_n 3, 1) := by decide +kernel
theorem dX8_insert_17 : decode prog_10_method_4_code 17 = .ok (.ifCond .le 49, 3) := by decide +kernel
theorem dX8_insert_20 : decode prog_10_method_4_code 20 = .ok (.aload_n 0, 1) := by decide +kernel
theorem dX8_insert_21 : decode prog_10_method_4_code 21 = .ok (.getfield 9, 3) := by decide +kernel
theorem dX8_insert_24 : decode prog_10_method_4_code 24 = .ok (.iload_n 3, 1) := by decide +kernel
theorem dX8_insert_25 : decode prog_10_method_4_code 25 = .ok (.iconst 1, 1) := by decide +kernel
theorem dX8_insert_26 : decode prog_10_method_4_code 26 = .ok (.isub, 1) := by decide +kernel
theorem dX8_insert_27 : decode prog_10_method_4_code 27 = .ok (.iaload, 1) := by decide +kernel
theorem dX8_insert_28 : decode prog_10_method_4_code 28 = .ok (.iload_n 1, 1) := by decide +kernel
theorem dX8_insert_29 : decode prog_10_method_4_code 29 = .ok (.if_icmp .le 37, 3) := by decide +kernel
theorem dX8_insert_32 : decode prog_10_method_4_code 32 = .ok (.aload_n 0, 1) := by decide +kernel
theorem dX8_insert_33 : decode prog_10_method_4_code 33 = .ok (.getfield 9, 3) := by decide +kernel
theorem dX8_insert_36 : decode prog_10_method_4_code 36 = .ok (.iload_n 3, 1) := by decide +kernel
theorem dX8_insert_37 : decode prog_10_method_4_code 37 = .ok (.aload_n 0, 1) := by decide +kernel
theorem dX8_insert_38 : decode prog_10_method_4_code 38 = .ok (.getfield 9, 3) := by decide +kernel
theorem dX8_insert_41 : decode prog_10_method_4_code 41 = .ok (.iload_n 3, 1) := by decide +kernel
theorem dX8_insert_42 : decode prog_10_method_4_code 42 = .ok (.iconst 1, 1) := by decide +kernel
theorem dX8_insert_43 : decode prog_10_method_4_code 43 = .ok (.isub, 1) := by decide +kernel
theorem dX8_insert_44 : decode prog_10_method_4_code 44 = .ok (.iaload, 1) := by decide +kernel
theorem dX8_insert_45 : decode prog_10_method_4_code 45 = .ok (.iastore, 1) := by decide +kernel
theorem dX8_insert_46 : decode prog_10_method_4_code 46 = .ok (.aload_n 0, 1) := by decide +kernel
theorem dX8_insert_47 : decode prog_10_method_4_code 47 = .ok (.getfield 17, 3) := by decide +kernel
theorem dX8_insert_50 : decode prog_10_method_4_code 50 = .ok (.iload_n 3, 1) := by decide +kernel
theorem dX8_insert_51 : decode prog_10_method_4_code 51 = .ok (.aload_n 0, 1) := by decide +kernel
theorem dX8_insert_52 : decode prog_10_method_4_code 52 = .ok (.getfield 17, 3) := by decide +kernel
theorem dX8_insert_55 : decode prog_10_method_4_code 55 = .ok (.iload_n 3, 1) := by decide +kernel
theorem dX8_insert_56 : decode prog_10_method_4_code 56 = .ok (.iconst 1, 1) := by decide +kernel
theorem dX8_insert_57 : decode prog_10_method_4_code 57 = .ok (.isub, 1) := by decide +kernel
theorem dX8_insert_58 : decode prog_10_method_4_code 58 = .ok (.aaload, 1) := by decide +kernel
theorem dX8_insert_59 : decode prog_10_method_4_code 59 = .ok (.aastore, 1) := by decide +kernel
theorem dX8_insert_60 : decode prog_10_method_4_code 60 = .ok (.iinc 3 (-1), 3) := by decide +kernel
theorem dX8_insert_63 : decode prog_10_method_4_code 63 = .ok (.goto (-47), 3) := by decide +kernel
theorem dX8_insert_66 : decode prog_10_method_4_code 66 = .ok (.aload_n 0, 1) := by decide +kernel
theorem dX8_insert_67 : decode prog_10_method_4_code 67 = .ok (.getfield 9, 3) := by decide +kernel
theorem dX8_insert_70 : decode prog_10_method_4_code 70 = .ok (.iload_n 3, 1) := by decide +kernel
theorem dX8_insert_71 : decode prog_10_method_4_code 71 = .ok (.iload_n 1, 1) := by decide +kernel
theorem dX8_insert_72 : decode prog_10_method_4_code 72 = .ok (.iastore, 1) := by decide +kernel
theorem dX8_insert_73 : decode prog_10_method_4_code 73 = .ok (.aload_n 0, 1) := by decide +kernel
theorem dX8_insert_74 : decode prog_10_method_4_code 74 = .ok (.getfield 17, 3) := by decide +kernel
theorem dX8_insert_77 : decode prog_10_method_4_code 77 = .ok (.iload_n 3, 1) := by decide +kernel
theorem dX8_insert_78 : decode prog_10_method_4_code 78 = .ok (.aload_n 2, 1) := by decide +kernel
theorem dX8_insert_79 : decode prog_10_method_4_code 79 = .ok (.aastore, 1) := by decide +kernel
theorem dX8_insert_80 : decode prog_10_method_4_code 80 = .ok (.aload_n 2, 1) := by decide +kernel
theorem dX8_insert_81 : decode prog_10_method_4_code 81 = .ok (.dup, 1) := by decide +kernel
theorem dX8_insert_82 : decode prog_10_method_4_code 82 = .ok (.getfield 29, 3) := by decide +kernel
theorem dX8_insert_85 : decode prog_10_method_4_code 85 = .ok (.iconst 1, 1) := by decide +kernel
theorem dX8_insert_86 : decode prog_10_method_4_code 86 = .ok (.iadd, 1) := by decide +kernel
theorem dX8_insert_87 : decode prog_10_method_4_code 87 = .ok (.putfield 29, 3) := by decide +kernel
theorem dX8_insert_90 : decode prog_10_method_4_code 90 = .ok (.aload_n 0, 1) := by decide +kernel
theorem dX8_insert_91 : decode prog_10_method_4_code 91 = .ok (.dup, 1) := by decide +kernel
theorem dX8_insert_92 : decode prog_10_method_4_code 92 = .ok (.getfield 21, 3) := by decide +kernel
theorem dX8_insert_95 : decode prog_10_method_4_code 95 = .ok (.iconst 1, 1) := by decide +kernel
theorem dX8_insert_96 : decode prog_10_method_4_code 96 = .ok (.iadd, 1) := by decide +kernel
theorem dX8_insert_97 : decode prog_10_method_4_code 97 = .ok (.putfield 21, 3) := by decide +kernel
theorem dX8_insert_100 : decode prog_10_method_4_code 100 = .ok (.return_, 1) := by decide +kernel
theorem dX8_replace_0 : decode prog_10_method_5_code 0 = .ok (.iload_n 1, 1) := by decide +kernel
theorem dX8_replace_1 : decode prog_10_method_5_code 1 = .ok (.ifCond .lt 11, 3) := by decide +kernel
theorem dX8_replace_4 : decode prog_10_method_5_code 4 = .ok (.iload_n 1, 1) := by decide +kernel
theorem dX8_replace_5 : decode prog_10_method_5_code 5 = .ok (.aload_n 0, 1) := by decide +kernel
theorem dX8_replace_6 : decode prog_10_method_5_code 6 = .ok (.getfield 21, 3) := by decide +kernel
theorem dX8_replace_9 : decode prog_10_method_5_code 9 = .ok (.if_icmp .lt 4, 3) := by decide +kernel
theorem dX8_replace_12 : decode prog_10_method_5_code 12 = .ok (.return_, 1) := by decide +kernel
theorem dX8_replace_13 : decode prog_10_method_5_code 13 = .ok (.aload_n 0, 1) := by decide +kernel
theorem dX8_replace_14 : decode prog_10_method_5_code 14 = .ok (.getfield 17, 3) := by decide +kernel
theorem dX8_replace_17 : decode prog_10_method_5_code 17 = .ok (.iload_n 1, 1) := by decide +kernel
theorem dX8_replace_18 : decode prog_10_method_5_code 18 = .ok (.aaload, 1) := by decide +kernel
theorem dX8_replace_19 : decode prog_10_method_5_code 19 = .ok (.dup, 1) := by decide +kernel
theorem dX8_replace_20 : decode prog_10_method_5_code 20 = .ok (.getfield 29, 3) := by decide +kernel
theorem dX8_replace_23 : decode prog_10_method_5_code 23 = .ok (.iconst 1, 1) := by decide +kernel
