theorem dX14_isLeftRound_55 : decode prog_13_method_15_code 55 = .ok (.iload 5, 2) := by decide +kernel
theorem dX14_isLeftRound_57 : decode prog_13_method_15_code 57 = .ok (.iadd, 1) := by decide +kernel
theorem dX14_isLeftRound_58 : decode prog_13_method_15_code 58 = .ok (.iaload, 1) := by decide +kernel
theorem dX14_isLeftRound_59 : decode prog_13_method_15_code 59 = .ok (.aload_n 0, 1) := by decide +kernel
theorem dX14_isLeftRound_60 : decode prog_13_method_15_code 60 = .ok (.getfield 36, 3) := by decide +kernel
theorem dX14_isLeftRound_63 : decode prog_13_method_15_code 63 = .ok (.iload_n 2, 1) := by decide +kernel
theorem dX14_isLeftRound_64 : decode prog_13_method_15_code 64 = .ok (.iload 4, 2) := by decide +kernel
theorem dX14_isLeftRound_66 : decode prog_13_method_15_code 66 = .ok (.iadd, 1) := by decide +kernel
theorem dX14_isLeftRound_67 : decode prog_13_method_15_code 67 = .ok (.iaload, 1) := by decide +kernel
theorem dX14_isLeftRound_68 : decode prog_13_method_15_code 68 = .ok (.if_icmp .ne 28, 3) := by decide +kernel
theorem dX14_isLeftRound_71 : decode prog_13_method_15_code 71 = .ok (.aload_n 0, 1) := by decide +kernel
theorem dX14_isLeftRound_72 : decode prog_13_method_15_code 72 = .ok (.getfield 30, 3) := by decide +kernel
theorem dX14_isLeftRound_75 : decode prog_13_method_15_code 75 = .ok (.iload_n 2, 1) := by decide +kernel
theorem dX14_isLeftRound_76 : decode prog_13_method_15_code 76 = .ok (.iload 5, 2) := by decide +kernel
theorem dX14_isLeftRound_78 : decode prog_13_method_15_code 78 = .ok (.iadd, 1) := by decide +kernel
theorem dX14_isLeftRound_79 : decode prog_13_method_15_code 79 = .ok (.iaload, 1) := by decide +kernel
theorem dX14_isLeftRound_80 : decode prog_13_method_15_code 80 = .ok (.aload_n 0, 1) := by decide +kernel
theorem dX14_isLeftRound_81 : decode prog_13_method_15_code 81 = .ok (.getfield 30, 3) := by decide +kernel
theorem dX14_isLeftRound_84 : decode prog_13_method_15_code 84 = .ok (.iload_n 2, 1) := by decide +kernel
theorem dX14_isLeftRound_85 : decode prog_13_method_15_code 85 = .ok (.iload 4, 2) := by decide +kernel
theorem dX14_isLeftRound_87 : decode prog_13_method_15_code 87 = .ok (.iadd, 1) := by decide +kernel
theorem dX14_isLeftRound_88 : decode prog_13_method_15_code 88 = .ok (.iaload, 1) := by decide +kernel
theorem dX14_isLeftRound_89 : decode prog_13_method_15_code 89 = .ok (.if_icmp .ge 7, 3) := by decide +kernel
theorem dX14_isLeftRound_92 : decode prog_13_method_15_code 92 = .ok (.iload 5, 2) := by decide +kernel
theorem dX14_isLeftRound_94 : decode prog_13_method_15_code 94 = .ok (.istore 4, 2) := by decide +kernel
theorem dX14_isLeftRound_96 : decode prog_13_method_15_code 96 = .ok (.iinc 5 1, 3) := by decide +kernel
theorem dX14_isLeftRound_99 : decode prog_13_method_15_code 99 = .ok (.goto (-76), 3) := by decide +kernel
theorem dX14_isLeftRound_102 : decode prog_13_method_15_code 102 = .ok (.iload_n 2, 1) := by decide +kernel
theorem dX14_isLeftRound_103 : decode prog_13_method_15_code 103 = .ok (.iload 4, 2) := by decide +kernel
theorem dX14_isLeftRound_105 : decode prog_13_method_15_code 105 = .ok (.iload_n 3, 1) := by decide +kernel
theorem dX14_isLeftRound_106 : decode prog_13_method_15_code 106 = .ok (.iadd, 1) := by decide +kernel
theorem dX14_isLeftRound_107 : decode prog_13_method_15_code 107 = .ok (.iconst 1, 1) := by decide +kernel
theorem dX14_isLeftRound_108 : decode prog_13_method_15_code 108 = .ok (.isub, 1) := by decide +kernel
theorem dX14_isLeftRound_109 : decode prog_13_method_15_code 109 = .ok (.iload_n 3, 1) := by decide +kernel
theorem dX14_isLeftRound_110 : decode prog_13_method_15_code 110 = .ok (.irem, 1) := by decide +kernel
theorem dX14_isLeftRound_111 : decode prog_13_method_15_code 111 = .ok (.iadd, 1) := by decide +kernel
theorem dX14_isLeftRound_112 : decode prog_13_method_15_code 112 = .ok (.istore 5, 2) := by decide +kernel
theorem dX14_isLeftRound_114 : decode prog_13_method_15_code 114 = .ok (.iload_n 2, 1) := by decide +kernel
theorem dX14_isLeftRound_115 : decode prog_13_method_15_code 115 = .ok (.iload 4, 2) := by decide +kernel
theorem dX14_isLeftRound_117 : decode prog_13_method_15_code 117 = .ok (.iconst 1, 1) := by decide +kernel
theorem dX14_isLeftRound_118 : decode prog_13_method_15_code 118 = .ok (.iadd, 1) := by decide +kernel
theorem dX14_isLeftRound_119 : decode prog_13_method_15_code 119 = .ok (.iload_n 3, 1) := by decide +kernel
theorem dX14_isLeftRound_120 : decode prog_13_method_15_code 120 = .ok (.irem, 1) := by decide +kernel
theorem dX14_isLeftRound_121 : decode prog_13_method_15_code 121 = .ok (.iadd, 1) := by decide +kernel
theorem dX14_isLeftRound_122 : decode prog_13_method_15_code 122 = .ok (.istore 6, 2) := by decide +kernel
theorem dX14_isLeftRound_124 : decode prog_13_method_15_code 124 = .ok (.iload_n 2, 1) := by decide +kernel
theorem dX14_isLeftRound_125 : decode prog_13_method_15_code 125 = .ok (.iload 4, 2) := by decide +kernel
theorem dX14_isLeftRound_127 : decode prog_13_method_15_code 127 = .ok (.iadd, 1) := by decide +kernel
theorem dX14_isLeftRound_128 : decode prog_13_method_15_code 128 = .ok (.istore 7, 2) := by decide +kernel
theorem dX14_isLeftRound_130 : decode prog_13_method_15_code 130 = .ok (.aload_n 0, 1) := by decide +kernel
theorem dX14_isLeftRound_131 : decode prog_13_method_15_code 131 = .ok (.getfield 30, 3) := by decide +kernel
theorem dX14_isLeftRound_134 : decode prog_13_method_15_code 134 = .ok (.iload 7, 2) := by decide +kernel
theorem dX14_isLeftRound_136 : decode prog_13_method_15_code 136 = .ok (.iaload, 1) := by decide +kernel
theorem dX14_isLeftRound_137 : decode prog_13_method_15_code 137 = .ok (.i2l, 1) := by decide +kernel
theorem dX14_isLeftRound_138 : decode prog_13_method_15_code 138 = .ok (.aload_n 0, 1) := by decide +kernel
theorem dX14_isLeftRound_139 : decode prog_13_method_15_code 139 = .ok (.getfield 30, 3) := by decide +kernel
theorem dX14_isLeftRound_142 : decode prog_13_method_15_code 142 = .ok (.iload 5, 2) := by decide +kernel
theorem dX14_isLeftRound_144 : decode prog_13_method_15_code 144 = .ok (.iaload, 1) := by decide +kernel
theorem dX14_isLeftRound_145 : decode prog_13_method_15_code 145 = .ok (.i2l, 1) := by decide +kernel
theorem dX14_isLeftRound_146 : decode prog_13_method_15_code 146 = .ok (.lsub, 1) := by decide +kernel
theorem dX14_isLeftRound_147 : decode prog_13_method_15_code 147 = .ok (.aload_n 0, 1) := by decide +kernel
theorem dX14_isLeftRound_148 : decode prog_13_method_15_code 148 = .ok (.getfield 36, 3) := by decide +kernel
theorem dX14_isLeftRound_151 : decode prog_13_method_15_code 151 = .ok (.iload 7, 2) := by decide +kernel
theorem dX14_isLeftRound_153 : decode prog_13_method_15_code 153 = .ok (.iaload, 1) := by decide +kernel
theorem dX14_isLeftRound_154 : decode prog_13_method_15_code 154 = .ok (.i2l, 1) := by decide +kernel
theorem dX14_isLeftRound_155 : decode prog_13_method_15_code 155 = .ok (.aload_n 0, 1) := by decide +kernel
theorem dX14_isLeftRound_156 : decode prog_13_method_15_code 156 = .ok (.getfield 36, 3) := by decide +kernel
theorem dX14_isLeftRound_159 : decode prog_13_method_15_code 159 = .ok (.iload 5, 2) := by decide +kernel
theorem dX14_isLeftRound_161 : decode prog_13_method_15_code 161 = .ok (.iaload, 1) := by decide +kernel
theorem dX14_isLeftRound_162 : decode prog_13_method_15_code 162 = .ok (.i2l, 1) := by decide +kernel
theorem dX14_isLeftRound_163 : decode prog_13_method_15_code 163 = .ok (.lsub, 1) := by decide +kernel
theorem dX14_isLeftRound_164 : decode prog_13_method_15_code 164 = .ok (.aload_n 0, 1) := by decide +kernel
theorem dX14_isLeftRound_165 : decode prog_13_method_15_code 165 = .ok (.getfield 30, 3) := by decide +kernel
theorem dX14_isLeftRound_168 : decode prog_13_method_15_code 168 = .ok (.iload 6, 2) := by decide +kernel
theorem dX14_isLeftRound_170 : decode prog_13_method_15_code 170 = .ok (.iaload, 1) := by decide +kernel
theorem dX14_isLeftRound_171 : decode prog_13_method_15_code 171 = .ok (.i2l, 1) := by decide +kernel
theorem dX14_isLeftRound_172 : decode prog_13_method_15_code 172 = .ok (.aload_n 0, 1) := by decide +kernel
theorem dX14_isLeftRound_173 : decode prog_13_method_15_code 173 = .ok (.getfield 30, 3) := by decide +kernel
theorem dX14_isLeftRound_176 : decode prog_13_method_15_code 176 = .ok (.iload 7, 2) := by decide +kernel
theorem dX14_isLeftRound_178 : decode prog_13_method_15_code 178 = .ok (.iaload, 1) := by decide +kernel
theorem dX14_isLeftRound_179 : decode prog_13_method_15_code 179 = .ok (.i2l, 1) := by decide +kernel
theorem dX14_isLeftRound_180 : decode prog_13_method_15_code 180 = .ok (.lsub, 1) := by decide +kernel
theorem dX14_isLeftRound_181 : decode prog_13_method_15_code 181 = .ok (.aload_n 0, 1) := by decide +kernel
theorem dX14_isLeftRound_182 : decode prog_13_method_15_code 182 = .ok (.getfield 36, 3) := by decide +kernel
theorem dX14_isLeftRound_185 : decode prog_13_method_15_code 185 = .ok (.iload 6, 2) := by decide +kernel
theorem dX14_isLeftRound_187 : decode prog_13_method_15_code 187 = .ok (.iaload, 1) := by decide +kernel
theorem dX14_isLeftRound_188 : decode prog_13_method_15_code 188 = .ok (.i2l, 1) := by decide +kernel
theorem dX14_isLeftRound_189 : decode prog_13_method_15_code 189 = .ok (.aload_n 0, 1) := by decide +kernel
theorem dX14_isLeftRound_190 : decode prog_13_method_15_code 190 = .ok (.getfield 36, 3) := by decide +kernel
theorem dX14_isLeftRound_193 : decode prog_13_method_15_code 193 = .ok (.iload 7, 2) := by decide +kernel
theorem dX14_isLeftRound_195 : decode prog_13_method_15_code 195 = .ok (.iaload, 1) := by decide +kernel
theorem dX14_isLeftRound_196 : decode prog_13_method_15_code 196 = .ok (.i2l, 1) := by decide +kernel
theorem dX14_isLeftRound_197 : decode prog_13_method_15_code 197 = .ok (.lsub, 1) := by decide +kernel
theorem dX14_isLeftRound_198 : decode prog_13_method_15_code 198 = .ok (.invokestatic 39, 3) := by decide +kernel
theorem dX14_isLeftRound_201 : decode prog_13_method_15_code 201 = .ok (.lconst 0, 1) := by decide +kernel
theorem dX14_isLeftRound_202 : decode prog_13_method_15_code 202 = .ok (.lcmp, 1) := by decide +kernel
theorem dX14_isLeftRound_203 : decode prog_13_method_15_code 203 = .ok (.ifCond .le 7, 3) := by decide +kernel
theorem dX14_isLeftRound_206 : decode prog_13_method_15_code 206 = .ok (.iconst 1, 1) := by decide +kernel
theorem dX14_isLeftRound_207 : decode prog_13_method_15_code 207 = .ok (.goto 4, 3) := by decide +kernel
theorem dX14_isLeftRound_210 : decode prog_13_method_15_code 210 = .ok (.iconst 0, 1) := by decide +kernel
theorem dX14_isLeftRound_211 : decode prog_13_method_15_code 211 = .ok (.ireturn, 1) := by decide +kernel
theorem dX14_isInteriorLeft_0 : decode prog_13_method_16_code 0 = .ok (.aload_n 0, 1) := by decide +kernel
theorem dX14_isInteriorLeft_1 : decode prog_13_method_16_code 1 = .ok (.iload_n 1, 1) := by decide +kernel
theorem dX14_isInteriorLeft_2 : decode prog_13_method_16_code 2 = .ok (.invokestatic 90, 3) := by decide +kernel
theorem dX14_isInteriorLeft_5 : decode prog_13_method_16_code 5 = .ok (.iload_n 1, 1) := by decide +kernel
theorem dX14_isInteriorLeft_6 : decode prog_13_method_16_code 6 = .ok (.ifCond .ne 7, 3) := by decide +kernel
theorem dX14_isInteriorLeft_9 : decode prog_13_method_16_code 9 = .ok (.iconst 1, 1) := by decide +kernel
theorem dX14_isInteriorLeft_10 : decode prog_13_method_16_code 10 = .ok (.goto 4, 3) := by decide +kernel
theorem dX14_isInteriorLeft_13 : decode prog_13_method_16_code 13 = .ok (.iconst 0, 1) := by decide +kernel
theorem dX14_isInteriorLeft_14 : decode prog_13_method_16_code 14 = .ok (.if_icmp .ne 7, 3) := by decide +kernel
theorem dX14_isInteriorLeft_17 : decode prog_13_method_16_code 17 = .ok (.iconst 1, 1) := by decide +kernel
theorem dX14_isInteriorLeft_18 : decode prog_13_method_16_code 18 = .ok (.goto 4, 3) := by decide +kernel
theorem dX14_isInteriorLeft_21 : decode prog_13_method_16_code 21 = .ok (.iconst 0, 1) := by decide +kernel
theorem dX14_isInteriorLeft_22 : decode prog_13_method_16_code 22 = .ok (.ireturn, 1) := by decide +kernel
theorem dX14_ringOf_0 : decode prog_13_method_17_code 0 = .ok (.iconst 0, 1) := by decide +kernel
theorem dX14_ringOf_1 : decode prog_13_method_17_code 1 = .ok (.istore_n 2, 1) := by decide +kernel
theorem dX14_ringOf_2 : decode prog_13_method_17_code 2 = .ok (.aload_n 0, 1) := by decide +kernel
theorem dX14_ringOf_3 : decode prog_13_method_17_code 3 = .ok (.getfield 68, 3) := by decide +kernel
theorem dX14_ringOf_6 : decode prog_13_method_17_code 6 = .ok (.iload_n 2, 1) := by decide +kernel
theorem dX14_ringOf_7 : decode prog_13_method_17_code 7 = .ok (.iaload, 1) := by decide +kernel
theorem dX14_ringOf_8 : decode prog_13_method_17_code 8 = .ok (.iload_n 1, 1) := by decide +kernel
theorem dX14_ringOf_9 : decode prog_13_method_17_code 9 = .ok (.if_icmp .gt 9, 3) := by decide +kernel
theorem dX14_ringOf_12 : decode prog_13_method_17_code 12 = .ok (.iinc 2 1, 3) := by decide +kernel
theorem dX14_ringOf_15 : decode prog_13_method_17_code 15 = .ok (.goto (-13), 3) := by decide +kernel
theorem dX14_ringOf_18 : decode prog_13_method_17_code 18 = .ok (.iload_n 2, 1) := by decide +kernel
theorem dX14_ringOf_19 : decode prog_13_method_17_code 19 = .ok (.ireturn, 1) := by decide +kernel
theorem dX14_meetWays_0 : decode prog_13_method_18_code 0 = .ok (.aload_n 1, 1) := by decide +kernel
theorem dX14_meetWays_1 : decode prog_13_method_18_code 1 = .ok (.getfield 30, 3) := by decide +kernel
theorem dX14_meetWays_4 : decode prog_13_method_18_code 4 = .ok (.iload_n 2, 1) := by decide +kernel
theorem dX14_meetWays_5 : decode prog_13_method_18_code 5 = .ok (.iconst 1, 1) := by decide +kernel
theorem dX14_meetWays_6 : decode prog_13_method_18_code 6 = .ok (.iadd, 1) := by decide +kernel
theorem dX14_meetWays_7 : decode prog_13_method_18_code 7 = .ok (.iaload, 1) := by decide +kernel
theorem dX14_meetWays_8 : decode prog_13_method_18_code 8 = .ok (.i2l, 1) := by decide +kernel
theorem dX14_meetWays_9 : decode prog_13_method_18_code 9 = .ok (.aload_n 1, 1) := by decide +kernel
theorem dX14_meetWays_10 : decode prog_13_method_18_code 10 = .ok (.getfield 30, 3) := by decide +kernel
theorem dX14_meetWays_13 : decode prog_13_method_18_code 13 = .ok (.iload_n 2, 1) := by decide +kernel
theorem dX14_meetWays_14 : decode prog_13_method_18_code 14 = .ok (.iaload, 1) := by decide +kernel
theorem dX14_meetWays_15 : decode prog_13_method_18_code 15 = .ok (.i2l, 1) := by decide +kernel
theorem dX14_meetWays_16 : decode prog_13_method_18_code 16 = .ok (.lsub, 1) := by decide +kernel
theorem dX14_meetWays_17 : decode prog_13_method_18_code 17 = .ok (.lstore 5, 2) := by decide +kernel
theorem dX14_meetWays_19 : decode prog_13_method_18_code 19 = .ok (.aload_n 1, 1) := by decide +kernel
theorem dX14_meetWays_20 : decode prog_13_method_18_code 20 = .ok (.getfield 36, 3) := by decide +kernel
theorem dX14_meetWays_23 : decode prog_13_method_18_code 23 = .ok (.iload_n 2, 1) := by decide +kernel
theorem dX14_meetWays_24 : decode prog_13_method_18_code 24 = .ok (.iconst 1, 1) := by decide +kernel
theorem dX14_meetWays_25 : decode prog_13_method_18_code 25 = .ok (.iadd, 1) := by decide +kernel
theorem dX14_meetWays_26 : decode prog_13_method_18_code 26 = .ok (.iaload, 1) := by decide +kernel
theorem dX14_meetWays_27 : decode prog_13_method_18_code 27 = .ok (.i2l, 1) := by decide +kernel
theorem dX14_meetWays_28 : decode prog_13_method_18_code 28 = .ok (.aload_n 1, 1) := by decide +kernel
theorem dX14_meetWays_29 : decode prog_13_method_18_code 29 = .ok (.getfield 36, 3) := by decide +kernel
theorem dX14_meetWays_32 : decode prog_13_method_18_code 32 = .ok (.iload_n 2, 1) := by decide +kernel
theorem dX14_meetWays_33 : decode prog_13_method_18_code 33 = .ok (.iaload, 1) := by decide +kernel
theorem dX14_meetWays_34 : decode prog_13_method_18_code 34 = .ok (.i2l, 1) := by decide +kernel
theorem dX14_meetWays_35 : decode prog_13_method_18_code 35 = .ok (.lsub, 1) := by decide +kernel
theorem dX14_meetWays_36 : decode prog_13_method_18_code 36 = .ok (.lstore 7, 2) := by decide +kernel
theorem dX14_meetWays_38 : decode prog_13_method_18_code 38 = .ok (.aload_n 3, 1) := by decide +kernel
theorem dX14_meetWays_39 : decode prog_13_method_18_code 39 = .ok (.getfield 30, 3) := by decide +kernel
theorem dX14_meetWays_42 : decode prog_13_method_18_code 42 = .ok (.iload 4, 2) := by decide +kernel
theorem dX14_meetWays_44 : decode prog_13_method_18_code 44 = .ok (.iconst 1, 1) := by decide +kernel
theorem dX14_meetWays_45 : decode prog_13_method_18_code 45 = .ok (.iadd, 1) := by decide +kernel
theorem dX14_meetWays_46 : decode prog_13_method_18_code 46 = .ok (.iaload, 1) := by decide +kernel
theorem dX14_meetWays_47 : decode prog_13_method_18_code 47 = .ok (.i2l, 1) := by decide +kernel
theorem dX14_meetWays_48 : decode prog_13_method_18_code 48 = .ok (.aload_n 3, 1) := by decide +kernel
theorem dX14_meetWays_49 : decode prog_13_method_18_code 49 = .ok (.getfield 30, 3) := by decide +kernel
theorem dX14_meetWays_52 : decode prog_13_method_18_code 52 = .ok (.iload 4, 2) := by decide +kernel
theorem dX14_meetWays_54 : decode prog_13_method_18_code 54 = .ok (.iaload, 1) := by decide +kernel
theorem dX14_meetWays_55 : decode prog_13_method_18_code 55 = .ok (.i2l, 1) := by decide +kernel
theorem dX14_meetWays_56 : decode prog_13_method_18_code 56 = .ok (.lsub, 1) := by decide +kernel
theorem dX14_meetWays_57 : decode prog_13_method_18_code 57 = .ok (.lstore 9, 2) := by decide +kernel
theorem dX14_meetWays_59 : decode prog_13_method_18_code 59 = .ok (.aload_n 3, 1) := by decide +kernel
theorem dX14_meetWays_60 : decode prog_13_method_18_code 60 = .ok (.getfield 36, 3) := by decide +kernel
theorem dX14_meetWays_63 : decode prog_13_method_18_code 63 = .ok (.iload 4, 2) := by decide +kernel
theorem dX14_meetWays_65 : decode prog_13_method_18_code 65 = .ok (.iconst 1, 1) := by decide +kernel
theorem dX14_meetWays_66 : decode prog_13_method_18_code 66 = .ok (.iadd, 1) := by decide +kernel
theorem dX14_meetWays_67 : decode prog_13_method_18_code 67 = .ok (.iaload, 1) := by decide +kernel
theorem dX14_meetWays_68 : decode prog_13_method_18_code 68 = .ok (.i2l, 1) := by decide +kernel
theorem dX14_meetWays_69 : decode prog_13_method_18_code 69 = .ok (.aload_n 3, 1) := by decide +kernel
theorem dX14_meetWays_70 : decode prog_13_method_18_code 70 = .ok (.getfield 36, 3) := by decide +kernel
theorem dX14_meetWays_73 : decode prog_13_method_18_code 73 = .ok (.iload 4, 2) := by decide +kernel
theorem dX14_meetWays_75 : decode prog_13_method_18_code 75 = .ok (.iaload, 1) := by decide +kernel
theorem dX14_meetWays_76 : decode prog_13_method_18_code 76 = .ok (.i2l, 1) := by decide +kernel
theorem dX14_meetWays_77 : decode prog_13_method_18_code 77 = .ok (.lsub, 1) := by decide +kernel
theorem dX14_meetWays_78 : decode prog_13_method_18_code 78 = .ok (.lstore 11, 2) := by decide +kernel
theorem dX14_meetWays_80 : decode prog_13_method_18_code 80 = .ok (.aload_n 3, 1) := by decide +kernel
theorem dX14_meetWays_81 : decode prog_13_method_18_code 81 = .ok (.getfield 30, 3) := by decide +kernel
theorem dX14_meetWays_84 : decode prog_13_method_18_code 84 = .ok (.iload 4, 2) := by decide +kernel
theorem dX14_meetWays_86 : decode prog_13_method_18_code 86 = .ok (.iaload, 1) := by decide +kernel
theorem dX14_meetWays_87 : decode prog_13_method_18_code 87 = .ok (.i2l, 1) := by decide +kernel
theorem dX14_meetWays_88 : decode prog_13_method_18_code 88 = .ok (.aload_n 1, 1) := by decide +kernel
theorem dX14_meetWays_89 : decode prog_13_method_18_code 89 = .ok (.getfield 30, 3) := by decide +kernel
theorem dX14_meetWays_92 : decode prog_13_method_18_code 92 = .ok (.iload_n 2, 1) := by decide +kernel
theorem dX14_meetWays_93 : decode prog_13_method_18_code 93 = .ok (.iaload, 1) := by decide +kernel
theorem dX14_meetWays_94 : decode prog_13_method_18_code 94 = .ok (.i2l, 1) := by decide +kernel
theorem dX14_meetWays_95 : decode prog_13_method_18_code 95 = .ok (.lsub, 1) := by decide +kernel
theorem dX14_meetWays_96 : decode prog_13_method_18_code 96 = .ok (.lstore 13, 2) := by decide +kernel
theorem dX14_meetWays_98 : decode prog_13_method_18_code 98 = .ok (.aload_n 3, 1) := by decide +kernel
theorem dX14_meetWays_99 : decode prog_13_method_18_code 99 = .ok (.getfield 36, 3) := by decide +kernel
theorem dX14_meetWays_102 : decode prog_13_method_18_code 102 = .ok (.iload 4, 2) := by decide +kernel
theorem dX14_meetWays_104 : decode prog_13_method_18_code 104 = .ok (.iaload, 1) := by decide +kernel
theorem dX14_meetWays_105 : decode prog_13_method_18_code 105 = .ok (.i2l, 1) := by decide +kernel
theorem dX14_meetWays_106 : decode prog_13_method_18_code 106 = .ok (.aload_n 1, 1) := by decide +kernel
theorem dX14_meetWays_107 : decode prog_13_method_18_code 107 = .ok (.getfield 36, 3) := by decide +kernel
theorem dX14_meetWays_110 : decode prog_13_method_18_code 110 = .ok (.iload_n 2, 1) := by decide +kernel
theorem dX14_meetWays_111 : decode prog_13_method_18_code 111 = .ok (.iaload, 1) := by decide +kernel
theorem dX14_meetWays_112 : decode prog_13_method_18_code 112 = .ok (.i2l, 1) := by decide +kernel
theorem dX14_meetWays_113 : decode prog_13_method_18_code 113 = .ok (.lsub, 1) := by decide +kernel
theorem dX14_meetWays_114 : decode prog_13_method_18_code 114 = .ok (.lstore 15, 2) := by decide +kernel
theorem dX14_meetWays_116 : decode prog_13_method_18_code 116 = .ok (.aload_n 0, 1) := by decide +kernel
theorem dX14_meetWays_117 : decode prog_13_method_18_code 117 = .ok (.lload 5, 2) := by decide +kernel
theorem dX14_meetWays_119 : decode prog_13_method_18_code 119 = .ok (.lload 7, 2) := by decide +kernel
theorem dX14_meetWays_121 : decode prog_13_method_18_code 121 = .ok (.lload 9, 2) := by decide +kernel
theorem dX14_meetWays_123 : decode prog_13_method_18_code 123 = .ok (.lload 11, 2) := by decide +kernel
theorem dX14_meetWays_125 : decode prog_13_method_18_code 125 = .ok (.invokestatic 39, 3) := by decide +kernel
theorem dX14_meetWays_128 : decode prog_13_method_18_code 128 = .ok (.putfield 94, 3) := by decide +kernel
theorem dX14_meetWays_131 : decode prog_13_method_18_code 131 = .ok (.aload_n 0, 1) := by decide +kernel
theorem dX14_meetWays_132 : decode prog_13_method_18_code 132 = .ok (.aload_n 0, 1) := by decide +kernel
theorem dX14_meetWays_133 : decode prog_13_method_18_code 133 = .ok (.getfield 94, 3) := by decide +kernel
theorem dX14_meetWays_136 : decode prog_13_method_18_code 136 = .ok (.lconst 0, 1) := by decide +kernel
theorem dX14_meetWays_137 : decode prog_13_method_18_code 137 = .ok (.lcmp, 1) := by decide +kernel
theorem dX14_meetWays_138 : decode prog_13_method_18_code 138 = .ok (.ifCond .ne 23, 3) := by decide +kernel
theorem dX14_meetWays_141 : decode prog_13_method_18_code 141 = .ok (.lload 5, 2) := by decide +kernel
theorem dX14_meetWays_143 : decode prog_13_method_18_code 143 = .ok (.lload 7, 2) := by decide +kernel
theorem dX14_meetWays_145 : decode prog_13_method_18_code 145 = .ok (.lload 13, 2) := by decide +kernel
theorem dX14_meetWays_147 : decode prog_13_method_18_code 147 = .ok (.lload 15, 2) := by decide +kernel
theorem dX14_meetWays_149 : decode prog_13_method_18_code 149 = .ok (.invokestatic 39, 3) := by decide +kernel
theorem dX14_meetWays_152 : decode prog_13_method_18_code 152 = .ok (.lconst 0, 1) := by decide +kernel
theorem dX14_meetWays_153 : decode prog_13_method_18_code 153 = .ok (.lcmp, 1) := by decide +kernel
theorem dX14_meetWays_154 : decode prog_13_method_18_code 154 = .ok (.ifCond .ne 7, 3) := by decide +kernel
theorem dX14_meetWays_157 : decode prog_13_method_18_code 157 = .ok (.iconst 1, 1) := by decide +kernel
theorem dX14_meetWays_158 : decode prog_13_method_18_code 158 = .ok (.goto 4, 3) := by decide +kernel
theorem dX14_meetWays_161 : decode prog_13_method_18_code 161 = .ok (.iconst 0, 1) := by decide +kernel
theorem dX14_meetWays_162 : decode prog_13_method_18_code 162 = .ok (.putfield 98, 3) := by decide +kernel
theorem dX14_meetWays_165 : decode prog_13_method_18_code 165 = .ok (.aload_n 0, 1) := by decide +kernel
theorem dX14_meetWays_166 : decode prog_13_method_18_code 166 = .ok (.getfield 94, 3) := by decide +kernel
theorem dX14_meetWays_169 : decode prog_13_method_18_code 169 = .ok (.lconst 0, 1) := by decide +kernel
theorem dX14_meetWays_170 : decode prog_13_method_18_code 170 = .ok (.lcmp, 1) := by decide +kernel
theorem dX14_meetWays_171 : decode prog_13_method_18_code 171 = .ok (.ifCond .ne 70, 3) := by decide +kernel
theorem dX14_meetWays_174 : decode prog_13_method_18_code 174 = .ok (.aload_n 0, 1) := by decide +kernel
theorem dX14_meetWays_175 : decode prog_13_method_18_code 175 = .ok (.iconst 0, 1) := by decide +kernel
theorem dX14_meetWays_176 : decode prog_13_method_18_code 176 = .ok (.putfield 102, 3) := by decide +kernel
theorem dX14_meetWays_179 : decode prog_13_method_18_code 179 = .ok (.aload_n 0, 1) := by decide +kernel
theorem dX14_meetWays_180 : decode prog_13_method_18_code 180 = .ok (.lload 5, 2) := by decide +kernel
theorem dX14_meetWays_182 : decode prog_13_method_18_code 182 = .ok (.lconst 0, 1) := by decide +kernel
theorem dX14_meetWays_183 : decode prog_13_method_18_code 183 = .ok (.lcmp, 1) := by decide +kernel
theorem dX14_meetWays_184 : decode prog_13_method_18_code 184 = .ok (.ifCond .eq 8, 3) := by decide +kernel
theorem dX14_meetWays_187 : decode prog_13_method_18_code 187 = .ok (.lload 5, 2) := by decide +kernel
theorem dX14_meetWays_189 : decode prog_13_method_18_code 189 = .ok (.goto 5, 3) := by decide +kernel
theorem dX14_meetWays_192 : decode prog_13_method_18_code 192 = .ok (.lload 7, 2) := by decide +kernel
theorem dX14_meetWays_194 : decode prog_13_method_18_code 194 = .ok (.putfield 94, 3) := by decide +kernel
theorem dX14_meetWays_197 : decode prog_13_method_18_code 197 = .ok (.aload_n 0, 1) := by decide +kernel
theorem dX14_meetWays_198 : decode prog_13_method_18_code 198 = .ok (.lload 5, 2) := by decide +kernel
theorem dX14_meetWays_200 : decode prog_13_method_18_code 200 = .ok (.lconst 0, 1) := by decide +kernel
theorem dX14_meetWays_201 : decode prog_13_method_18_code 201 = .ok (.lcmp, 1) := by decide +kernel
theorem dX14_meetWays_202 : decode prog_13_method_18_code 202 = .ok (.ifCond .eq 8, 3) := by decide +kernel
theorem dX14_meetWays_205 : decode prog_13_method_18_code 205 = .ok (.lload 13, 2) := by decide +kernel
theorem dX14_meetWays_207 : decode prog_13_method_18_code 207 = .ok (.goto 5, 3) := by decide +kernel
theorem dX14_meetWays_210 : decode prog_13_method_18_code 210 = .ok (.lload 15, 2) := by decide +kernel
theorem dX14_meetWays_212 : decode prog_13_method_18_code 212 = .ok (.putfield 105, 3) := by decide +kernel
theorem dX14_meetWays_215 : decode prog_13_method_18_code 215 = .ok (.aload_n 0, 1) := by decide +kernel
theorem dX14_meetWays_216 : decode prog_13_method_18_code 216 = .ok (.aload_n 0, 1) := by decide +kernel
theorem dX14_meetWays_217 : decode prog_13_method_18_code 217 = .ok (.getfield 105, 3) := by decide +kernel
theorem dX14_meetWays_220 : decode prog_13_method_18_code 220 = .ok (.lload 5, 2) := by decide +kernel
theorem dX14_meetWays_222 : decode prog_13_method_18_code 222 = .ok (.lconst 0, 1) := by decide +kernel
theorem dX14_meetWays_223 : decode prog_13_method_18_code 223 = .ok (.lcmp, 1) := by decide +kernel
theorem dX14_meetWays_224 : decode prog_13_method_18_code 224 = .ok (.ifCond .eq 8, 3) := by decide +kernel
theorem dX14_meetWays_227 : decode prog_13_method_18_code 227 = .ok (.lload 9, 2) := by decide +kernel
theorem dX14_meetWays_229 : decode prog_13_method_18_code 229 = .ok (.goto 5, 3) := by decide +kernel
theorem dX14_meetWays_232 : decode prog_13_method_18_code 232 = .ok (.lload 11, 2) := by decide +kernel
theorem dX14_meetWays_234 : decode prog_13_method_18_code 234 = .ok (.ladd, 1) := by decide +kernel
theorem dX14_meetWays_235 : decode prog_13_method_18_code 235 = .ok (.putfield 108, 3) := by decide +kernel
theorem dX14_meetWays_238 : decode prog_13_method_18_code 238 = .ok (.goto 33, 3) := by decide +kernel
theorem dX14_meetWays_241 : decode prog_13_method_18_code 241 = .ok (.aload_n 0, 1) := by decide +kernel
theorem dX14_meetWays_242 : decode prog_13_method_18_code 242 = .ok (.lload 13, 2) := by decide +kernel
theorem dX14_meetWays_244 : decode prog_13_method_18_code 244 = .ok (.lload 15, 2) := by decide +kernel
theorem dX14_meetWays_246 : decode prog_13_method_18_code 246 = .ok (.lload 9, 2) := by decide +kernel
theorem dX14_meetWays_248 : decode prog_13_method_18_code 248 = .ok (.lload 11, 2) := by decide +kernel
theorem dX14_meetWays_250 : decode prog_13_method_18_code 250 = .ok (.invokestatic 39, 3) := by decide +kernel
theorem dX14_meetWays_253 : decode prog_13_method_18_code 253 = .ok (.putfield 105, 3) := by decide +kernel
theorem dX14_meetWays_256 : decode prog_13_method_18_code 256 = .ok (.aload_n 0, 1) := by decide +kernel
theorem dX14_meetWays_257 : decode prog_13_method_18_code 257 = .ok (.lload 13, 2) := by decide +kernel
theorem dX14_meetWays_259 : decode prog_13_method_18_code 259 = .ok (.lload 15, 2) := by decide +kernel
theorem dX14_meetWays_261 : decode prog_13_method_18_code 261 = .ok (.lload 5, 2) := by decide +kernel
theorem dX14_meetWays_263 : decode prog_13_method_18_code 263 = .ok (.lload 7, 2) := by decide +kernel
theorem dX14_meetWays_265 : decode prog_13_method_18_code 265 = .ok (.invokestatic 39, 3) := by decide +kernel
theorem dX14_meetWays_268 : decode prog_13_method_18_code 268 = .ok (.putfield 108, 3) := by decide +kernel
theorem dX14_meetWays_271 : decode prog_13_method_18_code 271 = .ok (.aload_n 0, 1) := by decide +kernel
theorem dX14_meetWays_272 : decode prog_13_method_18_code 272 = .ok (.getfield 94, 3) := by decide +kernel
theorem dX14_meetWays_275 : decode prog_13_method_18_code 275 = .ok (.lconst 0, 1) := by decide +kernel
theorem dX14_meetWays_276 : decode prog_13_method_18_code 276 = .ok (.lcmp, 1) := by decide +kernel
theorem dX14_meetWays_277 : decode prog_13_method_18_code 277 = .ok (.ifCond .ge 30, 3) := by decide +kernel
theorem dX14_meetWays_280 : decode prog_13_method_18_code 280 = .ok (.aload_n 0, 1) := by decide +kernel
theorem dX14_meetWays_281 : decode prog_13_method_18_code 281 = .ok (.aload_n 0, 1) := by decide +kernel
theorem dX14_meetWays_282 : decode prog_13_method_18_code 282 = .ok (.getfield 94, 3) := by decide +kernel
theorem dX14_meetWays_285 : decode prog_13_method_18_code 285 = .ok (.lneg, 1) := by decide +kernel
theorem dX14_meetWays_286 : decode prog_13_method_18_code 286 = .ok (.putfield 94, 3) := by decide +kernel
theorem dX14_meetWays_289 : decode prog_13_method_18_code 289 = .ok (.aload_n 0, 1) := by decide +kernel
theorem dX14_meetWays_290 : decode prog_13_method_18_code 290 = .ok (.aload_n 0, 1) := by decide +kernel
theorem dX14_meetWays_291 : decode prog_13_method_18_code 291 = .ok (.getfield 105, 3) := by decide +kernel
theorem dX14_meetWays_294 : decode prog_13_method_18_code 294 = .ok (.lneg, 1) := by decide +kernel
theorem dX14_meetWays_295 : decode prog_13_method_18_code 295 = .ok (.putfield 105, 3) := by decide +kernel
theorem dX14_meetWays_298 : decode prog_13_method_18_code 298 = .ok (.aload_n 0, 1) := by decide +kernel
theorem dX14_meetWays_299 : decode prog_13_method_18_code 299 = .ok (.aload_n 0, 1) := by decide +kernel
theorem dX14_meetWays_300 : decode prog_13_method_18_code 300 = .ok (.getfield 108, 3) := by decide +kernel
theorem dX14_meetWays_303 : decode prog_13_method_18_code 303 = .ok (.lneg, 1) := by decide +kernel
theorem dX14_meetWays_304 : decode prog_13_method_18_code 304 = .ok (.putfield 108, 3) := by decide +kernel
theorem dX14_meetWays_307 : decode prog_13_method_18_code 307 = .ok (.aload_n 0, 1) := by decide +kernel
theorem dX14_meetWays_308 : decode prog_13_method_18_code 308 = .ok (.getfield 98, 3) := by decide +kernel
theorem dX14_meetWays_311 : decode prog_13_method_18_code 311 = .ok (.ifCond .ne 70, 3) := by decide +kernel
theorem dX14_meetWays_314 : decode prog_13_method_18_code 314 = .ok (.aload_n 0, 1) := by decide +kernel
theorem dX14_meetWays_315 : decode prog_13_method_18_code 315 = .ok (.lload 5, 2) := by decide +kernel
theorem dX14_meetWays_317 : decode prog_13_method_18_code 317 = .ok (.lload 7, 2) := by decide +kernel
theorem dX14_meetWays_319 : decode prog_13_method_18_code 319 = .ok (.lload 9, 2) := by decide +kernel
theorem dX14_meetWays_321 : decode prog_13_method_18_code 321 = .ok (.lload 11, 2) := by decide +kernel
theorem dX14_meetWays_323 : decode prog_13_method_18_code 323 = .ok (.invokestatic 39, 3) := by decide +kernel
theorem dX14_meetWays_326 : decode prog_13_method_18_code 326 = .ok (.lconst 0, 1) := by decide +kernel
theorem dX14_meetWays_327 : decode prog_13_method_18_code 327 = .ok (.lcmp, 1) := by decide +kernel
theorem dX14_meetWays_328 : decode prog_13_method_18_code 328 = .ok (.ifCond .eq 49, 3) := by decide +kernel
theorem dX14_meetWays_331 : decode prog_13_method_18_code 331 = .ok (.aload_n 0, 1) := by decide +kernel
theorem dX14_meetWays_332 : decode prog_13_method_18_code 332 = .ok (.getfield 105, 3) := by decide +kernel
theorem dX14_meetWays_335 : decode prog_13_method_18_code 335 = .ok (.lconst 0, 1) := by decide +kernel
theorem dX14_meetWays_336 : decode prog_13_method_18_code 336 = .ok (.lcmp, 1) := by decide +kernel
theorem dX14_meetWays_337 : decode prog_13_method_18_code 337 = .ok (.ifCond .lt 40, 3) := by decide +kernel
theorem dX14_meetWays_340 : decode prog_13_method_18_code 340 = .ok (.aload_n 0, 1) := by decide +kernel
theorem dX14_meetWays_341 : decode prog_13_method_18_code 341 = .ok (.getfield 105, 3) := by decide +kernel
theorem dX14_meetWays_344 : decode prog_13_method_18_code 344 = .ok (.aload_n 0, 1) := by decide +kernel
theorem dX14_meetWays_345 : decode prog_13_method_18_code 345 = .ok (.getfield 94, 3) := by decide +kernel
theorem dX14_meetWays_348 : decode prog_13_method_18_code 348 = .ok (.lcmp, 1) := by decide +kernel
theorem dX14_meetWays_349 : decode prog_13_method_18_code 349 = .ok (.ifCond .gt 28, 3) := by decide +kernel
theorem dX14_meetWays_352 : decode prog_13_method_18_code 352 = .ok (.aload_n 0, 1) := by decide +kernel
theorem dX14_meetWays_353 : decode prog_13_method_18_code 353 = .ok (.getfield 108, 3) := by decide +kernel
theorem dX14_meetWays_356 : decode prog_13_method_18_code 356 = .ok (.lconst 0, 1) := by decide +kernel
theorem dX14_meetWays_357 : decode prog_13_method_18_code 357 = .ok (.lcmp, 1) := by decide +kernel
theorem dX14_meetWays_358 : decode prog_13_method_18_code 358 = .ok (.ifCond .lt 19, 3) := by decide +kernel
theorem dX14_meetWays_361 : decode prog_13_method_18_code 361 = .ok (.aload_n 0, 1) := by decide +kernel
theorem dX14_meetWays_362 : decode prog_13_method_18_code 362 = .ok (.getfield 108, 3) := by decide +kernel
theorem dX14_meetWays_365 : decode prog_13_method_18_code 365 = .ok (.aload_n 0, 1) := by decide +kernel
theorem dX14_meetWays_366 : decode prog_13_method_18_code 366 = .ok (.getfield 94, 3) := by decide +kernel
theorem dX14_meetWays_369 : decode prog_13_method_18_code 369 = .ok (.lcmp, 1) := by decide +kernel
theorem dX14_meetWays_370 : decode prog_13_method_18_code 370 = .ok (.ifCond .gt 7, 3) := by decide +kernel
theorem dX14_meetWays_373 : decode prog_13_method_18_code 373 = .ok (.iconst 1, 1) := by decide +kernel
theorem dX14_meetWays_374 : decode prog_13_method_18_code 374 = .ok (.goto 4, 3) := by decide +kernel
theorem dX14_meetWays_377 : decode prog_13_method_18_code 377 = .ok (.iconst 0, 1) := by decide +kernel
theorem dX14_meetWays_378 : decode prog_13_method_18_code 378 = .ok (.putfield 102, 3) := by decide +kernel
theorem dX14_meetWays_381 : decode prog_13_method_18_code 381 = .ok (.return_, 1) := by decide +kernel
theorem dX14_cut_0 : decode prog_13_method_19_code 0 = .ok (.lload_n 1, 1) := by decide +kernel
theorem dX14_cut_1 : decode prog_13_method_19_code 1 = .ok (.lconst 0, 1) := by decide +kernel
theorem dX14_cut_2 : decode prog_13_method_19_code 2 = .ok (.lcmp, 1) := by decide +kernel
theorem dX14_cut_3 : decode prog_13_method_19_code 3 = .ok (.ifCond .lt 12, 3) := by decide +kernel
theorem dX14_cut_6 : decode prog_13_method_19_code 6 = .ok (.lload_n 1, 1) := by decide +kernel
theorem dX14_cut_7 : decode prog_13_method_19_code 7 = .ok (.aload_n 0, 1) := by decide +kernel
theorem dX14_cut_8 : decode prog_13_method_19_code 8 = .ok (.getfield 94, 3) := by decide +kernel
theorem dX14_cut_11 : decode prog_13_method_19_code 11 = .ok (.lcmp, 1) := by decide +kernel
theorem dX14_cut_12 : decode prog_13_method_19_code 12 = .ok (.ifCond .le 4, 3) := by decide +kernel
theorem dX14_cut_15 : decode prog_13_method_19_code 15 = .ok (.return_, 1) := by decide +kernel
theorem dX14_cut_16 : decode prog_13_method_19_code 16 = .ok (.aload_n 0, 1) := by decide +kernel
theorem dX14_cut_17 : decode prog_13_method_19_code 17 = .ok (.getfield 111, 3) := by decide +kernel
theorem dX14_cut_20 : decode prog_13_method_19_code 20 = .ok (.aload_n 0, 1) := by decide +kernel
theorem dX14_cut_21 : decode prog_13_method_19_code 21 = .ok (.getfield 114, 3) := by decide +kernel
theorem dX14_cut_24 : decode prog_13_method_19_code 24 = .ok (.lload_n 1, 1) := by decide +kernel
theorem dX14_cut_25 : decode prog_13_method_19_code 25 = .ok (.lastore, 1) := by decide +kernel
theorem dX14_cut_26 : decode prog_13_method_19_code 26 = .ok (.aload_n 0, 1) := by decide +kernel
theorem dX14_cut_27 : decode prog_13_method_19_code 27 = .ok (.getfield 117, 3) := by decide +kernel
theorem dX14_cut_30 : decode prog_13_method_19_code 30 = .ok (.aload_n 0, 1) := by decide +kernel
theorem dX14_cut_31 : decode prog_13_method_19_code 31 = .ok (.getfield 114, 3) := by decide +kernel
theorem dX14_cut_34 : decode prog_13_method_19_code 34 = .ok (.aload_n 0, 1) := by decide +kernel
theorem dX14_cut_35 : decode prog_13_method_19_code 35 = .ok (.getfield 94, 3) := by decide +kernel
theorem dX14_cut_38 : decode prog_13_method_19_code 38 = .ok (.lastore, 1) := by decide +kernel
theorem dX14_cut_39 : decode prog_13_method_19_code 39 = .ok (.aload_n 0, 1) := by decide +kernel
theorem dX14_cut_40 : decode prog_13_method_19_code 40 = .ok (.dup, 1) := by decide +kernel
theorem dX14_cut_41 : decode prog_13_method_19_code 41 = .ok (.getfield 114, 3) := by decide +kernel
theorem dX14_cut_44 : decode prog_13_method_19_code 44 = .ok (.iconst 1, 1) := by decide +kernel
theorem dX14_cut_45 : decode prog_13_method_19_code 45 = .ok (.iadd, 1) := by decide +kernel
theorem dX14_cut_46 : decode prog_13_method_19_code 46 = .ok (.putfield 114, 3) := by decide +kernel
theorem dX14_cut_49 : decode prog_13_method_19_code 49 = .ok (.return_, 1) := by decide +kernel
theorem dX14_begins_0 : decode prog_13_method_20_code 0 = .ok (.aload_n 0, 1) := by decide +kernel
theorem dX14_begins_1 : decode prog_13_method_20_code 1 = .ok (.iconst 1, 1) := by decide +kernel
theorem dX14_begins_2 : decode prog_13_method_20_code 2 = .ok (.putfield 120, 3) := by decide +kernel
theorem dX14_begins_5 : decode prog_13_method_20_code 5 = .ok (.lload_n 1, 1) := by decide +kernel
theorem dX14_begins_6 : decode prog_13_method_20_code 6 = .ok (.lload_n 3, 1) := by decide +kernel
theorem dX14_begins_7 : decode prog_13_method_20_code 7 = .ok (.lload 6, 2) := by decide +kernel
theorem dX14_begins_9 : decode prog_13_method_20_code 9 = .ok (.lload 8, 2) := by decide +kernel
theorem dX14_begins_11 : decode prog_13_method_20_code 11 = .ok (.invokestatic 39, 3) := by decide +kernel
theorem dX14_begins_14 : decode prog_13_method_20_code 14 = .ok (.invokestatic 43, 3) := by decide +kernel
theorem dX14_begins_17 : decode prog_13_method_20_code 17 = .ok (.istore 10, 2) := by decide +kernel
theorem dX14_begins_19 : decode prog_13_method_20_code 19 = .ok (.iload 10, 2) := by decide +kernel
theorem dX14_begins_21 : decode prog_13_method_20_code 21 = .ok (.ifCond .ne 29, 3) := by decide +kernel
theorem dX14_begins_24 : decode prog_13_method_20_code 24 = .ok (.lload_n 1, 1) := by decide +kernel
theorem dX14_begins_25 : decode prog_13_method_20_code 25 = .ok (.lload_n 3, 1) := by decide +kernel
theorem dX14_begins_26 : decode prog_13_method_20_code 26 = .ok (.lload 6, 2) := by decide +kernel
theorem dX14_begins_28 : decode prog_13_method_20_code 28 = .ok (.lload 8, 2) := by decide +kernel
theorem dX14_begins_30 : decode prog_13_method_20_code 30 = .ok (.invokestatic 123, 3) := by decide +kernel
theorem dX14_begins_33 : decode prog_13_method_20_code 33 = .ok (.lconst 0, 1) := by decide +kernel
theorem dX14_begins_34 : decode prog_13_method_20_code 34 = .ok (.lcmp, 1) := by decide +kernel
theorem dX14_begins_35 : decode prog_13_method_20_code 35 = .ok (.ifCond .le 15, 3) := by decide +kernel
theorem dX14_begins_38 : decode prog_13_method_20_code 38 = .ok (.aload_n 0, 1) := by decide +kernel
theorem dX14_begins_39 : decode prog_13_method_20_code 39 = .ok (.iconst 1, 1) := by decide +kernel
theorem dX14_begins_40 : decode prog_13_method_20_code 40 = .ok (.putfield 126, 3) := by decide +kernel
theorem dX14_begins_43 : decode prog_13_method_20_code 43 = .ok (.aload_n 0, 1) := by decide +kernel
theorem dX14_begins_44 : decode prog_13_method_20_code 44 = .ok (.iload 5, 2) := by decide +kernel
theorem dX14_begins_46 : decode prog_13_method_20_code 46 = .ok (.putfield 129, 3) := by decide +kernel
theorem dX14_begins_49 : decode prog_13_method_20_code 49 = .ok (.return_, 1) := by decide +kernel
theorem dX14_begins_50 : decode prog_13_method_20_code 50 = .ok (.iload 10, 2) := by decide +kernel
theorem dX14_begins_52 : decode prog_13_method_20_code 52 = .ok (.ifCond .le 7, 3) := by decide +kernel
theorem dX14_begins_55 : decode prog_13_method_20_code 55 = .ok (.iconst 0, 1) := by decide +kernel
theorem dX14_begins_56 : decode prog_13_method_20_code 56 = .ok (.goto 13, 3) := by decide +kernel
theorem dX14_begins_59 : decode prog_13_method_20_code 59 = .ok (.iload 10, 2) := by decide +kernel
theorem dX14_begins_61 : decode prog_13_method_20_code 61 = .ok (.ifCond .ne 7, 3) := by decide +kernel
theorem dX14_begins_64 : decode prog_13_method_20_code 64 = .ok (.iconst 1, 1) := by decide +kernel
theorem dX14_begins_65 : decode prog_13_method_20_code 65 = .ok (.goto 4, 3) := by decide +kernel
theorem dX14_begins_68 : decode prog_13_method_20_code 68 = .ok (.iconst 2, 1) := by decide +kernel
theorem dX14_begins_69 : decode prog_13_method_20_code 69 = .ok (.istore 11, 2) := by decide +kernel
theorem dX14_begins_71 : decode prog_13_method_20_code 71 = .ok (.iload 11, 2) := by decide +kernel
theorem dX14_begins_73 : decode prog_13_method_20_code 73 = .ok (.aload_n 0, 1) := by decide +kernel
theorem dX14_begins_74 : decode prog_13_method_20_code 74 = .ok (.getfield 132, 3) := by decide +kernel
theorem dX14_begins_77 : decode prog_13_method_20_code 77 = .ok (.if_icmp .lt 30, 3) := by decide +kernel
theorem dX14_begins_80 : decode prog_13_method_20_code 80 = .ok (.iload 11, 2) := by decide +kernel
theorem dX14_begins_82 : decode prog_13_method_20_code 82 = .ok (.aload_n 0, 1) := by decide +kernel
theorem dX14_begins_83 : decode prog_13_method_20_code 83 = .ok (.getfield 132, 3) := by decide +kernel
theorem dX14_begins_86 : decode prog_13_method_20_code 86 = .ok (.if_icmp .ne 43, 3) := by decide +kernel
theorem dX14_begins_89 : decode prog_13_method_20_code 89 = .ok (.aload_n 0, 1) := by decide +kernel
theorem dX14_begins_90 : decode prog_13_method_20_code 90 = .ok (.getfield 135, 3) := by decide +kernel
theorem dX14_begins_93 : decode prog_13_method_20_code 93 = .ok (.aload_n 0, 1) := by decide +kernel
theorem dX14_begins_94 : decode prog_13_method_20_code 94 = .ok (.getfield 138, 3) := by decide +kernel
theorem dX14_begins_97 : decode prog_13_method_20_code 97 = .ok (.lload_n 1, 1) := by decide +kernel
theorem dX14_begins_98 : decode prog_13_method_20_code 98 = .ok (.lload_n 3, 1) := by decide +kernel
theorem dX14_begins_99 : decode prog_13_method_20_code 99 = .ok (.invokestatic 39, 3) := by decide +kernel
theorem dX14_begins_102 : decode prog_13_method_20_code 102 = .ok (.lconst 0, 1) := by decide +kernel
theorem dX14_begins_103 : decode prog_13_method_20_code 103 = .ok (.lcmp, 1) := by decide +kernel
theorem dX14_begins_104 : decode prog_13_method_20_code 104 = .ok (.ifCond .le 25, 3) := by decide +kernel
theorem dX14_begins_107 : decode prog_13_method_20_code 107 = .ok (.aload_n 0, 1) := by decide +kernel
theorem dX14_begins_108 : decode prog_13_method_20_code 108 = .ok (.iload 11, 2) := by decide +kernel
theorem dX14_begins_110 : decode prog_13_method_20_code 110 = .ok (.putfield 132, 3) := by decide +kernel
theorem dX14_begins_113 : decode prog_13_method_20_code 113 = .ok (.aload_n 0, 1) := by decide +kernel
theorem dX14_begins_114 : decode prog_13_method_20_code 114 = .ok (.lload_n 1, 1) := by decide +kernel
theorem dX14_begins_115 : decode prog_13_method_20_code 115 = .ok (.putfield 135, 3) := by decide +kernel
theorem dX14_begins_118 : decode prog_13_method_20_code 118 = .ok (.aload_n 0, 1) := by decide +kernel
theorem dX14_begins_119 : decode prog_13_method_20_code 119 = .ok (.lload_n 3, 1) := by decide +kernel
theorem dX14_begins_120 : decode prog_13_method_20_code 120 = .ok (.putfield 138, 3) := by decide +kernel
theorem dX14_begins_123 : decode prog_13_method_20_code 123 = .ok (.aload_n 0, 1) := by decide +kernel
theorem dX14_begins_124 : decode prog_13_method_20_code 124 = .ok (.iload 5, 2) := by decide +kernel
theorem dX14_begins_126 : decode prog_13_method_20_code 126 = .ok (.putfield 141, 3) := by decide +kernel
theorem dX14_begins_129 : decode prog_13_method_20_code 129 = .ok (.return_, 1) := by decide +kernel
theorem dX14_lookRound_0 : decode prog_13_method_21_code 0 = .ok (.aload_n 0, 1) := by decide +kernel
theorem dX14_lookRound_1 : decode prog_13_method_21_code 1 = .ok (.iconst 0, 1) := by decide +kernel
theorem dX14_lookRound_2 : decode prog_13_method_21_code 2 = .ok (.putfield 120, 3) := by decide +kernel
theorem dX14_lookRound_5 : decode prog_13_method_21_code 5 = .ok (.aload_n 0, 1) := by decide +kernel
theorem dX14_lookRound_6 : decode prog_13_method_21_code 6 = .ok (.iconst 0, 1) := by decide +kernel
theorem dX14_lookRound_7 : decode prog_13_method_21_code 7 = .ok (.putfield 126, 3) := by decide +kernel
theorem dX14_lookRound_10 : decode prog_13_method_21_code 10 = .ok (.aload_n 0, 1) := by decide +kernel
theorem dX14_lookRound_11 : decode prog_13_method_21_code 11 = .ok (.iconst 3, 1) := by decide +kernel
theorem dX14_lookRound_12 : decode prog_13_method_21_code 12 = .ok (.putfield 132, 3) := by decide +kernel
theorem dX14_lookRound_15 : decode prog_13_method_21_code 15 = .ok (.aload_n 1, 1) := by decide +kernel
theorem dX14_lookRound_16 : decode prog_13_method_21_code 16 = .ok (.getfield 30, 3) := by decide +kernel
theorem dX14_lookRound_19 : decode prog_13_method_21_code 19 = .ok (.iload_n 2, 1) := by decide +kernel
theorem dX14_lookRound_20 : decode prog_13_method_21_code 20 = .ok (.iconst 1, 1) := by decide +kernel
theorem dX14_lookRound_21 : decode prog_13_method_21_code 21 = .ok (.iadd, 1) := by decide +kernel
theorem dX14_lookRound_22 : decode prog_13_method_21_code 22 = .ok (.iaload, 1) := by decide +kernel
theorem dX14_lookRound_23 : decode prog_13_method_21_code 23 = .ok (.i2l, 1) := by decide +kernel
theorem dX14_lookRound_24 : decode prog_13_method_21_code 24 = .ok (.aload_n 1, 1) := by decide +kernel
theorem dX14_lookRound_25 : decode prog_13_method_21_code 25 = .ok (.getfield 30, 3) := by decide +kernel
theorem dX14_lookRound_28 : decode prog_13_method_21_code 28 = .ok (.iload_n 2, 1) := by decide +kernel
theorem dX14_lookRound_29 : decode prog_13_method_21_code 29 = .ok (.iaload, 1) := by decide +kernel
theorem dX14_lookRound_30 : decode prog_13_method_21_code 30 = .ok (.i2l, 1) := by decide +kernel
theorem dX14_lookRound_31 : decode prog_13_method_21_code 31 = .ok (.lsub, 1) := by decide +kernel
theorem dX14_lookRound_32 : decode prog_13_method_21_code 32 = .ok (.lstore 8, 2) := by decide +kernel
theorem dX14_lookRound_34 : decode prog_13_method_21_code 34 = .ok (.aload_n 1, 1) := by decide +kernel
theorem dX14_lookRound_35 : decode prog_13_method_21_code 35 = .ok (.getfield 36, 3) := by decide +kernel
theorem dX14_lookRound_38 : decode prog_13_method_21_code 38 = .ok (.iload_n 2, 1) := by decide +kernel
theorem dX14_lookRound_39 : decode prog_13_method_21_code 39 = .ok (.iconst 1, 1) := by decide +kernel
theorem dX14_lookRound_40 : decode prog_13_method_21_code 40 = .ok (.iadd, 1) := by decide +kernel
theorem dX14_lookRound_41 : decode prog_13_method_21_code 41 = .ok (.iaload, 1) := by decide +kernel
theorem dX14_lookRound_42 : decode prog_13_method_21_code 42 = .ok (.i2l, 1) := by decide +kernel
theorem dX14_lookRound_43 : decode prog_13_method_21_code 43 = .ok (.aload_n 1, 1) := by decide +kernel
theorem dX14_lookRound_44 : decode prog_13_method_21_code 44 = .ok (.getfield 36, 3) := by decide +kernel
theorem dX14_lookRound_47 : decode prog_13_method_21_code 47 = .ok (.iload_n 2, 1) := by decide +kernel
theorem dX14_lookRound_48 : decode prog_13_method_21_code 48 = .ok (.iaload, 1) := by decide +kernel
theorem dX14_lookRound_49 : decode prog_13_method_21_code 49 = .ok (.i2l, 1) := by decide +kernel
theorem dX14_lookRound_50 : decode prog_13_method_21_code 50 = .ok (.lsub, 1) := by decide +kernel
theorem dX14_lookRound_51 : decode prog_13_method_21_code 51 = .ok (.lstore 10, 2) := by decide +kernel
theorem dX14_lookRound_53 : decode prog_13_method_21_code 53 = .ok (.iconst 0, 1) := by decide +kernel
theorem dX14_lookRound_54 : decode prog_13_method_21_code 54 = .ok (.istore 12, 2) := by decide +kernel
theorem dX14_lookRound_56 : decode prog_13_method_21_code 56 = .ok (.iload 12, 2) := by decide +kernel
theorem dX14_lookRound_58 : decode prog_13_method_21_code 58 = .ok (.iconst 1, 1) := by decide +kernel
theorem dX14_lookRound_59 : decode prog_13_method_21_code 59 = .ok (.iadd, 1) := by decide +kernel
theorem dX14_lookRound_60 : decode prog_13_method_21_code 60 = .ok (.aload_n 3, 1) := by decide +kernel
theorem dX14_lookRound_61 : decode prog_13_method_21_code 61 = .ok (.getfield 79, 3) := by decide +kernel
theorem dX14_lookRound_64 : decode prog_13_method_21_code 64 = .ok (.if_icmp .ge 505, 3) := by decide +kernel
theorem dX14_lookRound_67 : decode prog_13_method_21_code 67 = .ok (.aload_n 3, 1) := by decide +kernel
theorem dX14_lookRound_68 : decode prog_13_method_21_code 68 = .ok (.iload 12, 2) := by decide +kernel
theorem dX14_lookRound_70 : decode prog_13_method_21_code 70 = .ok (.invokevirtual 82, 3) := by decide +kernel
theorem dX14_lookRound_73 : decode prog_13_method_21_code 73 = .ok (.ifCond .ne 6, 3) := by decide +kernel
theorem dX14_lookRound_76 : decode prog_13_method_21_code 76 = .ok (.goto 487, 3) := by decide +kernel
theorem dX14_lookRound_79 : decode prog_13_method_21_code 79 = .ok (.aload_n 0, 1) := by decide +kernel
theorem dX14_lookRound_80 : decode prog_13_method_21_code 80 = .ok (.aload_n 1, 1) := by decide +kernel
theorem dX14_lookRound_81 : decode prog_13_method_21_code 81 = .ok (.iload_n 2, 1) := by decide +kernel
theorem dX14_lookRound_82 : decode prog_13_method_21_code 82 = .ok (.aload_n 3, 1) := by decide +kernel
theorem dX14_lookRound_83 : decode prog_13_method_21_code 83 = .ok (.iload 12, 2) := by decide +kernel
theorem dX14_lookRound_85 : decode prog_13_method_21_code 85 = .ok (.invokevirtual 144, 3) := by decide +kernel
theorem dX14_lookRound_88 : decode prog_13_method_21_code 88 = .ok (.iconst 0, 1) := by decide +kernel
theorem dX14_lookRound_89 : decode prog_13_method_21_code 89 = .ok (.istore 13, 2) := by decide +kernel
theorem dX14_lookRound_91 : decode prog_13_method_21_code 91 = .ok (.iconst 0, 1) := by decide +kernel
theorem dX14_lookRound_92 : decode prog_13_method_21_code 92 = .ok (.istore 14, 2) := by decide +kernel
theorem dX14_lookRound_94 : decode prog_13_method_21_code 94 = .ok (.aload_n 0, 1) := by decide +kernel
theorem dX14_lookRound_95 : decode prog_13_method_21_code 95 = .ok (.getfield 98, 3) := by decide +kernel
theorem dX14_lookRound_98 : decode prog_13_method_21_code 98 = .ok (.ifCond .eq 285, 3) := by decide +kernel
theorem dX14_lookRound_101 : decode prog_13_method_21_code 101 = .ok (.aload_n 0, 1) := by decide +kernel
theorem dX14_lookRound_102 : decode prog_13_method_21_code 102 = .ok (.getfield 105, 3) := by decide +kernel
theorem dX14_lookRound_105 : decode prog_13_method_21_code 105 = .ok (.aload_n 0, 1) := by decide +kernel
theorem dX14_lookRound_106 : decode prog_13_method_21_code 106 = .ok (.getfield 108, 3) := by decide +kernel
theorem dX14_lookRound_109 : decode prog_13_method_21_code 109 = .ok (.lcmp, 1) := by decide +kernel
theorem dX14_lookRound_110 : decode prog_13_method_21_code 110 = .ok (.ifCond .gt 26, 3) := by decide +kernel
theorem dX14_lookRound_113 : decode prog_13_method_21_code 113 = .ok (.aload_n 0, 1) := by decide +kernel
theorem dX14_lookRound_114 : decode prog_13_method_21_code 114 = .ok (.aload_n 0, 1) := by decide +kernel
theorem dX14_lookRound_115 : decode prog_13_method_21_code 115 = .ok (.getfield 105, 3) := by decide +kernel
theorem dX14_lookRound_118 : decode prog_13_method_21_code 118 = .ok (.lconst 0, 1) := by decide +kernel
theorem dX14_lookRound_119 : decode prog_13_method_21_code 119 = .ok (.invokestatic 148, 3) := by decide +kernel
theorem dX14_lookRound_122 : decode prog_13_method_21_code 122 = .ok (.aload_n 0, 1) := by decide +kernel
theorem dX14_lookRound_123 : decode prog_13_method_21_code 123 = .ok (.getfield 94, 3) := by decide +kernel
theorem dX14_lookRound_126 : decode prog_13_method_21_code 126 = .ok (.lload 4, 2) := by decide +kernel
theorem dX14_lookRound_128 : decode prog_13_method_21_code 128 = .ok (.lload 6, 2) := by decide +kernel
theorem dX14_lookRound_130 : decode prog_13_method_21_code 130 = .ok (.invokevirtual 151, 3) := by decide +kernel
theorem dX14_lookRound_133 : decode prog_13_method_21_code 133 = .ok (.goto 23, 3) := by decide +kernel
theorem dX14_lookRound_136 : decode prog_13_method_21_code 136 = .ok (.aload_n 0, 1) := by decide +kernel
theorem dX14_lookRound_137 : decode prog_13_method_21_code 137 = .ok (.aload_n 0, 1) := by decide +kernel
theorem dX14_lookRound_138 : decode prog_13_method_21_code 138 = .ok (.getfield 108, 3) := by decide +kernel
theorem dX14_lookRound_141 : decode prog_13_method_21_code 141 = .ok (.lconst 0, 1) := by decide +kernel
theorem dX14_lookRound_142 : decode prog_13_method_21_code 142 = .ok (.invokestatic 148, 3) := by decide +kernel
theorem dX14_lookRound_145 : decode prog_13_method_21_code 145 = .ok (.aload_n 0, 1) := by decide +kernel
theorem dX14_lookRound_146 : decode prog_13_method_21_code 146 = .ok (.getfield 94, 3) := by decide +kernel
theorem dX14_lookRound_149 : decode prog_13_method_21_code 149 = .ok (.lload 4, 2) := by decide +kernel
theorem dX14_lookRound_151 : decode prog_13_method_21_code 151 = .ok (.lload 6, 2) := by decide +kernel
theorem dX14_lookRound_153 : decode prog_13_method_21_code 153 = .ok (.invokevirtual 151, 3) := by decide +kernel
theorem dX14_lookRound_156 : decode prog_13_method_21_code 156 = .ok (.istore 15, 2) := by decide +kernel
theorem dX14_lookRound_158 : decode prog_13_method_21_code 158 = .ok (.aload_n 0, 1) := by decide +kernel
theorem dX14_lookRound_159 : decode prog_13_method_21_code 159 = .ok (.getfield 105, 3) := by decide +kernel
theorem dX14_lookRound_162 : decode prog_13_method_21_code 162 = .ok (.aload_n 0, 1) := by decide +kernel
theorem dX14_lookRound_163 : decode prog_13_method_21_code 163 = .ok (.getfield 108, 3) := by decide +kernel
theorem dX14_lookRound_166 : decode prog_13_method_21_code 166 = .ok (.invokestatic 154, 3) := by decide +kernel
theorem dX14_lookRound_169 : decode prog_13_method_21_code 169 = .ok (.lstore 16, 2) := by decide +kernel
theorem dX14_lookRound_171 : decode prog_13_method_21_code 171 = .ok (.aload_n 0, 1) := by decide +kernel
theorem dX14_lookRound_172 : decode prog_13_method_21_code 172 = .ok (.getfield 105, 3) := by decide +kernel
theorem dX14_lookRound_175 : decode prog_13_method_21_code 175 = .ok (.aload_n 0, 1) := by decide +kernel
theorem dX14_lookRound_176 : decode prog_13_method_21_code 176 = .ok (.getfield 108, 3) := by decide +kernel
theorem dX14_lookRound_179 : decode prog_13_method_21_code 179 = .ok (.invokestatic 148, 3) := by decide +kernel
theorem dX14_lookRound_182 : decode prog_13_method_21_code 182 = .ok (.lstore 18, 2) := by decide +kernel
theorem dX14_lookRound_184 : decode prog_13_method_21_code 184 = .ok (.lload 16, 2) := by decide +kernel
theorem dX14_lookRound_186 : decode prog_13_method_21_code 186 = .ok (.lconst 0, 1) := by decide +kernel
theorem dX14_lookRound_187 : decode prog_13_method_21_code 187 = .ok (.lcmp, 1) := by decide +kernel
theorem dX14_lookRound_188 : decode prog_13_method_21_code 188 = .ok (.ifCond .lt 8, 3) := by decide +kernel
theorem dX14_lookRound_191 : decode prog_13_method_21_code 191 = .ok (.iload 15, 2) := by decide +kernel
theorem dX14_lookRound_193 : decode prog_13_method_21_code 193 = .ok (.ifCond .gt 7, 3) := by decide +kernel
theorem dX14_lookRound_196 : decode prog_13_method_21_code 196 = .ok (.iconst 1, 1) := by decide +kernel
theorem dX14_lookRound_197 : decode prog_13_method_21_code 197 = .ok (.goto 4, 3) := by decide +kernel
theorem dX14_lookRound_200 : decode prog_13_method_21_code 200 = .ok (.iconst 0, 1) := by decide +kernel
theorem dX14_lookRound_201 : decode prog_13_method_21_code 201 = .ok (.istore 20, 2) := by decide +kernel
theorem dX14_lookRound_203 : decode prog_13_method_21_code 203 = .ok (.lload 18, 2) := by decide +kernel
theorem dX14_lookRound_205 : decode prog_13_method_21_code 205 = .ok (.lconst 0, 1) := by decide +kernel
theorem dX14_lookRound_206 : decode prog_13_method_21_code 206 = .ok (.lcmp, 1) := by decide +kernel
theorem dX14_lookRound_207 : decode prog_13_method_21_code 207 = .ok (.ifCond .lt 24, 3) := by decide +kernel
theorem dX14_lookRound_210 : decode prog_13_method_21_code 210 = .ok (.aload_n 0, 1) := by decide +kernel
theorem dX14_lookRound_211 : decode prog_13_method_21_code 211 = .ok (.lload 18, 2) := by decide +kernel
theorem dX14_lookRound_213 : decode prog_13_method_21_code 213 = .ok (.aload_n 0, 1) := by decide +kernel
theorem dX14_lookRound_214 : decode prog_13_method_21_code 214 = .ok (.getfield 94, 3) := by decide +kernel
theorem dX14_lookRound_217 : decode prog_13_method_21_code 217 = .ok (.lload 4, 2) := by decide +kernel
theorem dX14_lookRound_219 : decode prog_13_method_21_code 219 = .ok (.lload 6, 2) := by decide +kernel
theorem dX14_lookRound_221 : decode prog_13_method_21_code 221 = .ok (.invokevirtual 151, 3) := by decide +kernel
theorem dX14_lookRound_224 : decode prog_13_method_21_code 224 = .ok (.ifCond .lt 7, 3) := by decide +kernel
theorem dX14_lookRound_227 : decode prog_13_method_21_code 227 = .ok (.iconst 1, 1) := by decide +kernel
theorem dX14_lookRound_228 : decode prog_13_method_21_code 228 = .ok (.goto 4, 3) := by decide +kernel
theorem dX14_lookRound_231 : decode prog_13_method_21_code 231 = .ok (.iconst 0, 1) := by decide +kernel
theorem dX14_lookRound_232 : decode prog_13_method_21_code 232 = .ok (.istore 21, 2) := by decide +kernel
theorem dX14_lookRound_234 : decode prog_13_method_21_code 234 = .ok (.lload 16, 2) := by decide +kernel
theorem dX14_lookRound_236 : decode prog_13_method_21_code 236 = .ok (.lconst 0, 1) := by decide +kernel
theorem dX14_lookRound_237 : decode prog_13_method_21_code 237 = .ok (.lcmp, 1) := by decide +kernel
theorem dX14_lookRound_238 : decode prog_13_method_21_code 238 = .ok (.ifCond .lt 12, 3) := by decide +kernel
theorem dX14_lookRound_241 : decode prog_13_method_21_code 241 = .ok (.iload 15, 2) := by decide +kernel
theorem dX14_lookRound_243 : decode prog_13_method_21_code 243 = .ok (.ifCond .ne 7, 3) := by decide +kernel
theorem dX14_lookRound_246 : decode prog_13_method_21_code 246 = .ok (.iconst 1, 1) := by decide +kernel
theorem dX14_lookRound_247 : decode prog_13_method_21_code 247 = .ok (.goto 4, 3) := by decide +kernel
theorem dX14_lookRound_250 : decode prog_13_method_21_code 250 = .ok (.iconst 0, 1) := by decide +kernel
theorem dX14_lookRound_251 : decode prog_13_method_21_code 251 = .ok (.istore 22, 2) := by decide +kernel
theorem dX14_lookRound_253 : decode prog_13_method_21_code 253 = .ok (.lload 18, 2) := by decide +kernel
theorem dX14_lookRound_255 : decode prog_13_method_21_code 255 = .ok (.lconst 0, 1) := by decide +kernel
theorem dX14_lookRound_256 : decode prog_13_method_21_code 256 = .ok (.lcmp, 1) := by decide +kernel
theorem dX14_lookRound_257 : decode prog_13_method_21_code 257 = .ok (.ifCond .lt 24, 3) := by decide +kernel
theorem dX14_lookRound_260 : decode prog_13_method_21_code 260 = .ok (.aload_n 0, 1) := by decide +kernel
theorem dX14_lookRound_261 : decode prog_13_method_21_code 261 = .ok (.lload 18, 2) := by decide +kernel
theorem dX14_lookRound_263 : decode prog_13_method_21_code 263 = .ok (.aload_n 0, 1) := by decide +kernel
theorem dX14_lookRound_264 : decode prog_13_method_21_code 264 = .ok (.getfield 94, 3) := by decide +kernel
theorem dX14_lookRound_267 : decode prog_13_method_21_code 267 = .ok (.lload 4, 2) := by decide +kernel
theorem dX14_lookRound_269 : decode prog_13_method_21_code 269 = .ok (.lload 6, 2) := by decide +kernel
theorem dX14_lookRound_271 : decode prog_13_method_21_code 271 = .ok (.invokevirtual 151, 3) := by decide +kernel
theorem dX14_lookRound_274 : decode prog_13_method_21_code 274 = .ok (.ifCond .ne 7, 3) := by decide +kernel
theorem dX14_lookRound_277 : decode prog_13_method_21_code 277 = .ok (.iconst 1, 1) := by decide +kernel
theorem dX14_lookRound_278 : decode prog_13_method_21_code 278 = .ok (.goto 4, 3) := by decide +kernel
theorem dX14_lookRound_281 : decode prog_13_method_21_code 281 = .ok (.iconst 0, 1) := by decide +kernel
theorem dX14_lookRound_282 : decode prog_13_method_21_code 282 = .ok (.istore 23, 2) := by decide +kernel
theorem dX14_lookRound_284 : decode prog_13_method_21_code 284 = .ok (.iload 20, 2) := by decide +kernel
theorem dX14_lookRound_286 : decode prog_13_method_21_code 286 = .ok (.ifCond .eq 12, 3) := by decide +kernel
theorem dX14_lookRound_289 : decode prog_13_method_21_code 289 = .ok (.iload 21, 2) := by decide +kernel
theorem dX14_lookRound_291 : decode prog_13_method_21_code 291 = .ok (.ifCond .eq 7, 3) := by decide +kernel
theorem dX14_lookRound_294 : decode prog_13_method_21_code 294 = .ok (.iconst 1, 1) := by decide +kernel
theorem dX14_lookRound_295 : decode prog_13_method_21_code 295 = .ok (.goto 4, 3) := by decide +kernel
theorem dX14_lookRound_298 : decode prog_13_method_21_code 298 = .ok (.iconst 0, 1) := by decide +kernel
theorem dX14_lookRound_299 : decode prog_13_method_21_code 299 = .ok (.istore 24, 2) := by decide +kernel
theorem dX14_lookRound_301 : decode prog_13_method_21_code 301 = .ok (.aload_n 0, 1) := by decide +kernel
theorem dX14_lookRound_302 : decode prog_13_method_21_code 302 = .ok (.getfield 105, 3) := by decide +kernel
theorem dX14_lookRound_305 : decode prog_13_method_21_code 305 = .ok (.aload_n 0, 1) := by decide +kernel
theorem dX14_lookRound_306 : decode prog_13_method_21_code 306 = .ok (.getfield 108, 3) := by decide +kernel
theorem dX14_lookRound_309 : decode prog_13_method_21_code 309 = .ok (.lcmp, 1) := by decide +kernel
theorem dX14_lookRound_310 : decode prog_13_method_21_code 310 = .ok (.ifCond .gt 7, 3) := by decide +kernel
theorem dX14_lookRound_313 : decode prog_13_method_21_code 313 = .ok (.iconst 1, 1) := by decide +kernel
theorem dX14_lookRound_314 : decode prog_13_method_21_code 314 = .ok (.goto 4, 3) := by decide +kernel
theorem dX14_lookRound_317 : decode prog_13_method_21_code 317 = .ok (.iconst 0, 1) := by decide +kernel
theorem dX14_lookRound_318 : decode prog_13_method_21_code 318 = .ok (.istore 25, 2) := by decide +kernel
theorem dX14_lookRound_320 : decode prog_13_method_21_code 320 = .ok (.iload 24, 2) := by decide +kernel
theorem dX14_lookRound_322 : decode prog_13_method_21_code 322 = .ok (.ifCond .eq 25, 3) := by decide +kernel
theorem dX14_lookRound_325 : decode prog_13_method_21_code 325 = .ok (.iload 25, 2) := by decide +kernel
theorem dX14_lookRound_327 : decode prog_13_method_21_code 327 = .ok (.ifCond .eq 11, 3) := by decide +kernel
theorem dX14_lookRound_330 : decode prog_13_method_21_code 330 = .ok (.iload 23, 2) := by decide +kernel
theorem dX14_lookRound_332 : decode prog_13_method_21_code 332 = .ok (.ifCond .eq 11, 3) := by decide +kernel
theorem dX14_lookRound_335 : decode prog_13_method_21_code 335 = .ok (.goto 12, 3) := by decide +kernel
theorem dX14_lookRound_338 : decode prog_13_method_21_code 338 = .ok (.iload 22, 2) := by decide +kernel
theorem dX14_lookRound_340 : decode prog_13_method_21_code 340 = .ok (.ifCond .ne 7, 3) := by decide +kernel
theorem dX14_lookRound_343 : decode prog_13_method_21_code 343 = .ok (.iconst 1, 1) := by decide +kernel
theorem dX14_lookRound_344 : decode prog_13_method_21_code 344 = .ok (.goto 4, 3) := by decide +kernel
theorem dX14_lookRound_347 : decode prog_13_method_21_code 347 = .ok (.iconst 0, 1) := by decide +kernel
theorem dX14_lookRound_348 : decode prog_13_method_21_code 348 = .ok (.istore 13, 2) := by decide +kernel
theorem dX14_lookRound_350 : decode prog_13_method_21_code 350 = .ok (.iload 24, 2) := by decide +kernel
theorem dX14_lookRound_352 : decode prog_13_method_21_code 352 = .ok (.ifCond .eq 25, 3) := by decide +kernel
theorem dX14_lookRound_355 : decode prog_13_method_21_code 355 = .ok (.iload 25, 2) := by decide +kernel
theorem dX14_lookRound_357 : decode prog_13_method_21_code 357 = .ok (.ifCond .eq 11, 3) := by decide +kernel
theorem dX14_lookRound_360 : decode prog_13_method_21_code 360 = .ok (.iload 22, 2) := by decide +kernel
theorem dX14_lookRound_362 : decode prog_13_method_21_code 362 = .ok (.ifCond .eq 11, 3) := by decide +kernel
theorem dX14_lookRound_365 : decode prog_13_method_21_code 365 = .ok (.goto 12, 3) := by decide +kernel
theorem dX14_lookRound_368 : decode prog_13_method_21_code 368 = .ok (.iload 23, 2) := by decide +kernel
theorem dX14_lookRound_370 : decode prog_13_method_21_code 370 = .ok (.ifCond .ne 7, 3) := by decide +kernel
theorem dX14_lookRound_373 : decode prog_13_method_21_code 373 = .ok (.iconst 1, 1) := by decide +kernel
theorem dX14_lookRound_374 : decode prog_13_method_21_code 374 = .ok (.goto 4, 3) := by decide +kernel
theorem dX14_lookRound_377 : decode prog_13_method_21_code 377 = .ok (.iconst 0, 1) := by decide +kernel
theorem dX14_lookRound_378 : decode prog_13_method_21_code 378 = .ok (.istore 14, 2) := by decide +kernel
theorem dX14_lookRound_380 : decode prog_13_method_21_code 380 = .ok (.goto 64, 3) := by decide +kernel
theorem dX14_lookRound_383 : decode prog_13_method_21_code 383 = .ok (.aload_n 0, 1) := by decide +kernel
theorem dX14_lookRound_384 : decode prog_13_method_21_code 384 = .ok (.getfield 102, 3) := by decide +kernel
theorem dX14_lookRound_387 : decode prog_13_method_21_code 387 = .ok (.ifCond .eq 57, 3) := by decide +kernel
theorem dX14_lookRound_390 : decode prog_13_method_21_code 390 = .ok (.aload_n 0, 1) := by decide +kernel
theorem dX14_lookRound_391 : decode prog_13_method_21_code 391 = .ok (.aload_n 0, 1) := by decide +kernel
theorem dX14_lookRound_392 : decode prog_13_method_21_code 392 = .ok (.getfield 105, 3) := by decide +kernel
theorem dX14_lookRound_395 : decode prog_13_method_21_code 395 = .ok (.aload_n 0, 1) := by decide +kernel
theorem dX14_lookRound_396 : decode prog_13_method_21_code 396 = .ok (.getfield 94, 3) := by decide +kernel
theorem dX14_lookRound_399 : decode prog_13_method_21_code 399 = .ok (.lload 4, 2) := by decide +kernel
theorem dX14_lookRound_401 : decode prog_13_method_21_code 401 = .ok (.lload 6, 2) := by decide +kernel
theorem dX14_lookRound_403 : decode prog_13_method_21_code 403 = .ok (.invokevirtual 151, 3) := by decide +kernel
theorem dX14_lookRound_406 : decode prog_13_method_21_code 406 = .ok (.ifCond .ne 38, 3) := by decide +kernel
theorem dX14_lookRound_409 : decode prog_13_method_21_code 409 = .ok (.aload_n 0, 1) := by decide +kernel
theorem dX14_lookRound_410 : decode prog_13_method_21_code 410 = .ok (.getfield 108, 3) := by decide +kernel
theorem dX14_lookRound_413 : decode prog_13_method_21_code 413 = .ok (.aload_n 0, 1) := by decide +kernel
theorem dX14_lookRound_414 : decode prog_13_method_21_code 414 = .ok (.getfield 94, 3) := by decide +kernel
theorem dX14_lookRound_417 : decode prog_13_method_21_code 417 = .ok (.lcmp, 1) := by decide +kernel
theorem dX14_lookRound_418 : decode prog_13_method_21_code 418 = .ok (.ifCond .ge 7, 3) := by decide +kernel
theorem dX14_lookRound_421 : decode prog_13_method_21_code 421 = .ok (.iconst 1, 1) := by decide +kernel
theorem dX14_lookRound_422 : decode prog_13_method_21_code 422 = .ok (.goto 4, 3) := by decide +kernel
theorem dX14_lookRound_425 : decode prog_13_method_21_code 425 = .ok (.iconst 0, 1) := by decide +kernel
theorem dX14_lookRound_426 : decode prog_13_method_21_code 426 = .ok (.istore 13, 2) := by decide +kernel
theorem dX14_lookRound_428 : decode prog_13_method_21_code 428 = .ok (.aload_n 0, 1) := by decide +kernel
theorem dX14_lookRound_429 : decode prog_13_method_21_code 429 = .ok (.getfield 108, 3) := by decide +kernel
theorem dX14_lookRound_432 : decode prog_13_method_21_code 432 = .ok (.lconst 0, 1) := by decide +kernel
theorem dX14_lookRound_433 : decode prog_13_method_21_code 433 = .ok (.lcmp, 1) := by decide +kernel
theorem dX14_lookRound_434 : decode prog_13_method_21_code 434 = .ok (.ifCond .le 7, 3) := by decide +kernel
theorem dX14_lookRound_437 : decode prog_13_method_21_code 437 = .ok (.iconst 1, 1) := by decide +kernel
theorem dX14_lookRound_438 : decode prog_13_method_21_code 438 = .ok (.goto 4, 3) := by decide +kernel
theorem dX14_lookRound_441 : decode prog_13_method_21_code 441 = .ok (.iconst 0, 1) := by decide +kernel
theorem dX14_lookRound_442 : decode prog_13_method_21_code 442 = .ok (.istore 14, 2) := by decide +kernel
theorem dX14_lookRound_444 : decode prog_13_method_21_code 444 = .ok (.aload_n 3, 1) := by decide +kernel
theorem dX14_lookRound_445 : decode prog_13_method_21_code 445 = .ok (.getfield 30, 3) := by decide +kernel
theorem dX14_lookRound_448 : decode prog_13_method_21_code 448 = .ok (.iload 12, 2) := by decide +kernel
theorem dX14_lookRound_450 : decode prog_13_method_21_code 450 = .ok (.iconst 1, 1) := by decide +kernel
theorem dX14_lookRound_451 : decode prog_13_method_21_code 451 = .ok (.iadd, 1) := by decide +kernel
theorem dX14_lookRound_452 : decode prog_13_method_21_code 452 = .ok (.iaload, 1) := by decide +kernel
theorem dX14_lookRound_453 : decode prog_13_method_21_code 453 = .ok (.i2l, 1) := by decide +kernel
theorem dX14_lookRound_454 : decode prog_13_method_21_code 454 = .ok (.aload_n 3, 1) := by decide +kernel
theorem dX14_lookRound_455 : decode prog_13_method_21_code 455 = .ok (.getfield 30, 3) := by decide +kernel
theorem dX14_lookRound_458 : decode prog_13_method_21_code 458 = .ok (.iload 12, 2) := by decide +kernel
theorem dX14_lookRound_460 : decode prog_13_method_21_code 460 = .ok (.iaload, 1) := by decide +kernel
theorem dX14_lookRound_461 : decode prog_13_method_21_code 461 = .ok (.i2l, 1) := by decide +kernel
theorem dX14_lookRound_462 : decode prog_13_method_21_code 462 = .ok (.lsub, 1) := by decide +kernel
theorem dX14_lookRound_463 : decode prog_13_method_21_code 463 = .ok (.lstore 15, 2) := by decide +kernel
theorem dX14_lookRound_465 : decode prog_13_method_21_code 465 = .ok (.aload_n 3, 1) := by decide +kernel
theorem dX14_lookRound_466 : decode prog_13_method_21_code 466 = .ok (.getfield 36, 3) := by decide +kernel
theorem dX14_lookRound_469 : decode prog_13_method_21_code 469 = .ok (.iload 12, 2) := by decide +kernel
theorem dX14_lookRound_471 : decode prog_13_method_21_code 471 = .ok (.iconst 1, 1) := by decide +kernel
theorem dX14_lookRound_472 : decode prog_13_method_21_code 472 = .ok (.iadd, 1) := by decide +kernel
theorem dX14_lookRound_473 : decode prog_13_method_21_code 473 = .ok (.iaload, 1) := by decide +kernel
theorem dX14_lookRound_474 : decode prog_13_method_21_code 474 = .ok (.i2l, 1) := by decide +kernel
theorem dX14_lookRound_475 : decode prog_13_method_21_code 475 = .ok (.aload_n 3, 1) := by decide +kernel
theorem dX14_lookRound_476 : decode prog_13_method_21_code 476 = .ok (.getfield 36, 3) := by decide +kernel
theorem dX14_lookRound_479 : decode prog_13_method_21_code 479 = .ok (.iload 12, 2) := by decide +kernel
theorem dX14_lookRound_481 : decode prog_13_method_21_code 481 = .ok (.iaload, 1) := by decide +kernel
theorem dX14_lookRound_482 : decode prog_13_method_21_code 482 = .ok (.i2l, 1) := by decide +kernel
theorem dX14_lookRound_483 : decode prog_13_method_21_code 483 = .ok (.lsub, 1) := by decide +kernel
theorem dX14_lookRound_484 : decode prog_13_method_21_code 484 = .ok (.lstore 17, 2) := by decide +kernel
theorem dX14_lookRound_486 : decode prog_13_method_21_code 486 = .ok (.aload_n 3, 1) := by decide +kernel
theorem dX14_lookRound_487 : decode prog_13_method_21_code 487 = .ok (.getfield 75, 3) := by decide +kernel
theorem dX14_lookRound_490 : decode prog_13_method_21_code 490 = .ok (.iconst 2, 1) := by decide +kernel
theorem dX14_lookRound_491 : decode prog_13_method_21_code 491 = .ok (.if_icmp .ne 21, 3) := by decide +kernel
theorem dX14_lookRound_494 : decode prog_13_method_21_code 494 = .ok (.aload_n 0, 1) := by decide +kernel
theorem dX14_lookRound_495 : decode prog_13_method_21_code 495 = .ok (.getfield 156, 3) := by decide +kernel
theorem dX14_lookRound_498 : decode prog_13_method_21_code 498 = .ok (.aload_n 3, 1) := by decide +kernel
theorem dX14_lookRound_499 : decode prog_13_method_21_code 499 = .ok (.iload 12, 2) := by decide +kernel
theorem dX14_lookRound_501 : decode prog_13_method_21_code 501 = .ok (.invokestatic 160, 3) := by decide +kernel
theorem dX14_lookRound_504 : decode prog_13_method_21_code 504 = .ok (.baload, 1) := by decide +kernel
theorem dX14_lookRound_505 : decode prog_13_method_21_code 505 = .ok (.ifCond .eq 7, 3) := by decide +kernel
theorem dX14_lookRound_508 : decode prog_13_method_21_code 508 = .ok (.iconst 1, 1) := by decide +kernel
theorem dX14_lookRound_509 : decode prog_13_method_21_code 509 = .ok (.goto 4, 3) := by decide +kernel
theorem dX14_lookRound_512 : decode prog_13_method_21_code 512 = .ok (.iconst 0, 1) := by decide +kernel
theorem dX14_lookRound_513 : decode prog_13_method_21_code 513 = .ok (.istore 19, 2) := by decide +kernel
theorem dX14_lookRound_515 : decode prog_13_method_21_code 515 = .ok (.iload 13, 2) := by decide +kernel
theorem dX14_lookRound_517 : decode prog_13_method_21_code 517 = .ok (.ifCond .eq 17, 3) := by decide +kernel
theorem dX14_lookRound_520 : decode prog_13_method_21_code 520 = .ok (.aload_n 0, 1) := by decide +kernel
theorem dX14_lookRound_521 : decode prog_13_method_21_code 521 = .ok (.lload 15, 2) := by decide +kernel
theorem dX14_lookRound_523 : decode prog_13_method_21_code 523 = .ok (.lload 17, 2) := by decide +kernel
theorem dX14_lookRound_525 : decode prog_13_method_21_code 525 = .ok (.iload 19, 2) := by decide +kernel
theorem dX14_lookRound_527 : decode prog_13_method_21_code 527 = .ok (.lload 8, 2) := by decide +kernel
theorem dX14_lookRound_529 : decode prog_13_method_21_code 529 = .ok (.lload 10, 2) := by decide +kernel
theorem dX14_lookRound_531 : decode prog_13_method_21_code 531 = .ok (.invokevirtual 164, 3) := by decide +kernel
theorem dX14_lookRound_534 : decode prog_13_method_21_code 534 = .ok (.iload 14, 2) := by decide +kernel
theorem dX14_lookRound_536 : decode prog_13_method_21_code 536 = .ok (.ifCond .eq 27, 3) := by decide +kernel
theorem dX14_lookRound_539 : decode prog_13_method_21_code 539 = .ok (.aload_n 0, 1) := by decide +kernel
theorem dX14_lookRound_540 : decode prog_13_method_21_code 540 = .ok (.lload 15, 2) := by decide +kernel
theorem dX14_lookRound_542 : decode prog_13_method_21_code 542 = .ok (.lneg, 1) := by decide +kernel
theorem dX14_lookRound_543 : decode prog_13_method_21_code 543 = .ok (.lload 17, 2) := by decide +kernel
theorem dX14_lookRound_545 : decode prog_13_method_21_code 545 = .ok (.lneg, 1) := by decide +kernel
theorem dX14_lookRound_546 : decode prog_13_method_21_code 546 = .ok (.iload 19, 2) := by decide +kernel
theorem dX14_lookRound_548 : decode prog_13_method_21_code 548 = .ok (.ifCond .ne 7, 3) := by decide +kernel
theorem dX14_lookRound_551 : decode prog_13_method_21_code 551 = .ok (.iconst 1, 1) := by decide +kernel
theorem dX14_lookRound_552 : decode prog_13_method_21_code 552 = .ok (.goto 4, 3) := by decide +kernel
theorem dX14_lookRound_555 : decode prog_13_method_21_code 555 = .ok (.iconst 0, 1) := by decide +kernel
theorem dX14_lookRound_556 : decode prog_13_method_21_code 556 = .ok (.lload 8, 2) := by decide +kernel
theorem dX14_lookRound_558 : decode prog_13_method_21_code 558 = .ok (.lload 10, 2) := by decide +kernel
theorem dX14_lookRound_560 : decode prog_13_method_21_code 560 = .ok (.invokevirtual 164, 3) := by decide +kernel
theorem dX14_lookRound_563 : decode prog_13_method_21_code 563 = .ok (.iinc 12 1, 3) := by decide +kernel
theorem dX14_lookRound_566 : decode prog_13_method_21_code 566 = .ok (.goto (-510), 3) := by decide +kernel
theorem dX14_lookRound_569 : decode prog_13_method_21_code 569 = .ok (.return_, 1) := by decide +kernel
theorem dX14_goAlong_0 : decode prog_13_method_22_code 0 = .ok (.aload_n 0, 1) := by decide +kernel
theorem dX14_goAlong_1 : decode prog_13_method_22_code 1 = .ok (.iconst 0, 1) := by decide +kernel
theorem dX14_goAlong_2 : decode prog_13_method_22_code 2 = .ok (.putfield 168, 3) := by decide +kernel
theorem dX14_goAlong_5 : decode prog_13_method_22_code 5 = .ok (.aload_n 0, 1) := by decide +kernel
theorem dX14_goAlong_6 : decode prog_13_method_22_code 6 = .ok (.iconst 0, 1) := by decide +kernel
theorem dX14_goAlong_7 : decode prog_13_method_22_code 7 = .ok (.putfield 171, 3) := by decide +kernel
theorem dX14_goAlong_10 : decode prog_13_method_22_code 10 = .ok (.aload_n 0, 1) := by decide +kernel
theorem dX14_goAlong_11 : decode prog_13_method_22_code 11 = .ok (.iconst 0, 1) := by decide +kernel
theorem dX14_goAlong_12 : decode prog_13_method_22_code 12 = .ok (.putfield 174, 3) := by decide +kernel
theorem dX14_goAlong_15 : decode prog_13_method_22_code 15 = .ok (.aload_n 0, 1) := by decide +kernel
theorem dX14_goAlong_16 : decode prog_13_method_22_code 16 = .ok (.iconst 0, 1) := by decide +kernel
theorem dX14_goAlong_17 : decode prog_13_method_22_code 17 = .ok (.putfield 177, 3) := by decide +kernel
theorem dX14_goAlong_20 : decode prog_13_method_22_code 20 = .ok (.iconst 0, 1) := by decide +kernel
theorem dX14_goAlong_21 : decode prog_13_method_22_code 21 = .ok (.istore_n 3, 1) := by decide +kernel
theorem dX14_goAlong_22 : decode prog_13_method_22_code 22 = .ok (.iload_n 3, 1) := by decide +kernel
theorem dX14_goAlong_23 : decode prog_13_method_22_code 23 = .ok (.aload_n 2, 1) := by decide +kernel
theorem dX14_goAlong_24 : decode prog_13_method_22_code 24 = .ok (.getfield 180, 3) := by decide +kernel
theorem dX14_goAlong_27 : decode prog_13_method_22_code 27 = .ok (.if_icmp .ge 28, 3) := by decide +kernel
theorem dX14_goAlong_30 : decode prog_13_method_22_code 30 = .ok (.aload_n 2, 1) := by decide +kernel
theorem dX14_goAlong_31 : decode prog_13_method_22_code 31 = .ok (.getfield 75, 3) := by decide +kernel
theorem dX14_goAlong_34 : decode prog_13_method_22_code 34 = .ok (.iconst 2, 1) := by decide +kernel
theorem dX14_goAlong_35 : decode prog_13_method_22_code 35 = .ok (.if_icmp .ne 20, 3) := by decide +kernel
theorem dX14_goAlong_38 : decode prog_13_method_22_code 38 = .ok (.aload_n 0, 1) := by decide +kernel
theorem dX14_goAlong_39 : decode prog_13_method_22_code 39 = .ok (.getfield 156, 3) := by decide +kernel
theorem dX14_goAlong_42 : decode prog_13_method_22_code 42 = .ok (.iload_n 3, 1) := by decide +kernel
theorem dX14_goAlong_43 : decode prog_13_method_22_code 43 = .ok (.aload_n 2, 1) := by decide +kernel
theorem dX14_goAlong_44 : decode prog_13_method_22_code 44 = .ok (.iload_n 3, 1) := by decide +kernel
theorem dX14_goAlong_45 : decode prog_13_method_22_code 45 = .ok (.invokestatic 183, 3) := by decide +kernel
theorem dX14_goAlong_48 : decode prog_13_method_22_code 48 = .ok (.bastore, 1) := by decide +kernel
theorem dX14_goAlong_49 : decode prog_13_method_22_code 49 = .ok (.iinc 3 1, 3) := by decide +kernel
theorem dX14_goAlong_52 : decode prog_13_method_22_code 52 = .ok (.goto (-30), 3) := by decide +kernel
theorem dX14_goAlong_55 : decode prog_13_method_22_code 55 = .ok (.iconst 0, 1) := by decide +kernel
theorem dX14_goAlong_56 : decode prog_13_method_22_code 56 = .ok (.istore_n 3, 1) := by decide +kernel
theorem dX14_goAlong_57 : decode prog_13_method_22_code 57 = .ok (.iload_n 3, 1) := by decide +kernel
theorem dX14_goAlong_58 : decode prog_13_method_22_code 58 = .ok (.iconst 1, 1) := by decide +kernel
theorem dX14_goAlong_59 : decode prog_13_method_22_code 59 = .ok (.iadd, 1) := by decide +kernel
theorem dX14_goAlong_60 : decode prog_13_method_22_code 60 = .ok (.aload_n 1, 1) := by decide +kernel
theorem dX14_goAlong_61 : decode prog_13_method_22_code 61 = .ok (.getfield 79, 3) := by decide +kernel
theorem dX14_goAlong_64 : decode prog_13_method_22_code 64 = .ok (.if_icmp .ge 174, 3) := by decide +kernel
theorem dX14_goAlong_67 : decode prog_13_method_22_code 67 = .ok (.aload_n 1, 1) := by decide +kernel
theorem dX14_goAlong_68 : decode prog_13_method_22_code 68 = .ok (.iload_n 3, 1) := by decide +kernel
theorem dX14_goAlong_69 : decode prog_13_method_22_code 69 = .ok (.invokevirtual 82, 3) := by decide +kernel
theorem dX14_goAlong_72 : decode prog_13_method_22_code 72 = .ok (.ifCond .ne 6, 3) := by decide +kernel
theorem dX14_goAlong_75 : decode prog_13_method_22_code 75 = .ok (.goto 157, 3) := by decide +kernel
theorem dX14_goAlong_78 : decode prog_13_method_22_code 78 = .ok (.aload_n 0, 1) := by decide +kernel
theorem dX14_goAlong_79 : decode prog_13_method_22_code 79 = .ok (.iconst 0, 1) := by decide +kernel
theorem dX14_goAlong_80 : decode prog_13_method_22_code 80 = .ok (.putfield 114, 3) := by decide +kernel
theorem dX14_goAlong_83 : decode prog_13_method_22_code 83 = .ok (.aload_n 0, 1) := by decide +kernel
theorem dX14_goAlong_84 : decode prog_13_method_22_code 84 = .ok (.lconst 1, 1) := by decide +kernel
theorem dX14_goAlong_85 : decode prog_13_method_22_code 85 = .ok (.putfield 94, 3) := by decide +kernel
theorem dX14_goAlong_88 : decode prog_13_method_22_code 88 = .ok (.aload_n 0, 1) := by decide +kernel
theorem dX14_goAlong_89 : decode prog_13_method_22_code 89 = .ok (.lconst 0, 1) := by decide +kernel
theorem dX14_goAlong_90 : decode prog_13_method_22_code 90 = .ok (.invokevirtual 186, 3) := by decide +kernel
theorem dX14_goAlong_93 : decode prog_13_method_22_code 93 = .ok (.iconst 0, 1) := by decide +kernel
theorem dX14_goAlong_94 : decode prog_13_method_22_code 94 = .ok (.istore 4, 2) := by decide +kernel
theorem dX14_goAlong_96 : decode prog_13_method_22_code 96 = .ok (.iload 4, 2) := by decide +kernel
theorem dX14_goAlong_98 : decode prog_13_method_22_code 98 = .ok (.iconst 1, 1) := by decide +kernel
theorem dX14_goAlong_99 : decode prog_13_method_22_code 99 = .ok (.iadd, 1) := by decide +kernel
theorem dX14_goAlong_100 : decode prog_13_method_22_code 100 = .ok (.aload_n 2, 1) := by decide +kernel
theorem dX14_goAlong_101 : decode prog_13_method_22_code 101 = .ok (.getfield 79, 3) := by decide +kernel
theorem dX14_goAlong_104 : decode prog_13_method_22_code 104 = .ok (.if_icmp .ge 71, 3) := by decide +kernel
theorem dX14_goAlong_107 : decode prog_13_method_22_code 107 = .ok (.aload_n 2, 1) := by decide +kernel
theorem dX14_goAlong_108 : decode prog_13_method_22_code 108 = .ok (.iload 4, 2) := by decide +kernel
theorem dX14_goAlong_110 : decode prog_13_method_22_code 110 = .ok (.invokevirtual 82, 3) := by decide +kernel
theorem dX14_goAlong_113 : decode prog_13_method_22_code 113 = .ok (.ifCond .ne 6, 3) := by decide +kernel
theorem dX14_goAlong_116 : decode prog_13_method_22_code 116 = .ok (.goto 53, 3) := by decide +kernel
theorem dX14_goAlong_119 : decode prog_13_method_22_code 119 = .ok (.aload_n 0, 1) := by decide +kernel
theorem dX14_goAlong_120 : decode prog_13_method_22_code 120 = .ok (.aload_n 1, 1) := by decide +kernel
theorem dX14_goAlong_121 : decode prog_13_method_22_code 121 = .ok (.iload_n 3, 1) := by decide +kernel
theorem dX14_goAlong_122 : decode prog_13_method_22_code 122 = .ok (.aload_n 2, 1) := by decide +kernel
theorem dX14_goAlong_123 : decode prog_13_method_22_code 123 = .ok (.iload 4, 2) := by decide +kernel
theorem dX14_goAlong_125 : decode prog_13_method_22_code 125 = .ok (.invokevirtual 144, 3) := by decide +kernel
theorem dX14_goAlong_128 : decode prog_13_method_22_code 128 = .ok (.aload_n 0, 1) := by decide +kernel
theorem dX14_goAlong_129 : decode prog_13_method_22_code 129 = .ok (.getfield 98, 3) := by decide +kernel
theorem dX14_goAlong_132 : decode prog_13_method_22_code 132 = .ok (.ifCond .eq 22, 3) := by decide +kernel
theorem dX14_goAlong_135 : decode prog_13_method_22_code 135 = .ok (.aload_n 0, 1) := by decide +kernel
theorem dX14_goAlong_136 : decode prog_13_method_22_code 136 = .ok (.aload_n 0, 1) := by decide +kernel
theorem dX14_goAlong_137 : decode prog_13_method_22_code 137 = .ok (.getfield 105, 3) := by decide +kernel
theorem dX14_goAlong_140 : decode prog_13_method_22_code 140 = .ok (.invokevirtual 186, 3) := by decide +kernel
theorem dX14_goAlong_143 : decode prog_13_method_22_code 143 = .ok (.aload_n 0, 1) := by decide +kernel
theorem dX14_goAlong_144 : decode prog_13_method_22_code 144 = .ok (.aload_n 0, 1) := by decide +kernel
theorem dX14_goAlong_145 : decode prog_13_method_22_code 145 = .ok (.getfield 108, 3) := by decide +kernel
theorem dX14_goAlong_148 : decode prog_13_method_22_code 148 = .ok (.invokevirtual 186, 3) := by decide +kernel
theorem dX14_goAlong_151 : decode prog_13_method_22_code 151 = .ok (.goto 18, 3) := by decide +kernel
theorem dX14_goAlong_154 : decode prog_13_method_22_code 154 = .ok (.aload_n 0, 1) := by decide +kernel
theorem dX14_goAlong_155 : decode prog_13_method_22_code 155 = .ok (.getfield 102, 3) := by decide +kernel
theorem dX14_goAlong_158 : decode prog_13_method_22_code 158 = .ok (.ifCond .eq 11, 3) := by decide +kernel
theorem dX14_goAlong_161 : decode prog_13_method_22_code 161 = .ok (.aload_n 0, 1) := by decide +kernel
theorem dX14_goAlong_162 : decode prog_13_method_22_code 162 = .ok (.aload_n 0, 1) := by decide +kernel
theorem dX14_goAlong_163 : decode prog_13_method_22_code 163 = .ok (.getfield 105, 3) := by decide +kernel
theorem dX14_goAlong_166 : decode prog_13_method_22_code 166 = .ok (.invokevirtual 186, 3) := by decide +kernel
theorem dX14_goAlong_169 : decode prog_13_method_22_code 169 = .ok (.iinc 4 1, 3) := by decide +kernel
theorem dX14_goAlong_172 : decode prog_13_method_22_code 172 = .ok (.goto (-76), 3) := by decide +kernel
theorem dX14_goAlong_175 : decode prog_13_method_22_code 175 = .ok (.iconst 0, 1) := by decide +kernel
theorem dX14_goAlong_176 : decode prog_13_method_22_code 176 = .ok (.istore 4, 2) := by decide +kernel
theorem dX14_goAlong_178 : decode prog_13_method_22_code 178 = .ok (.iload 4, 2) := by decide +kernel
theorem dX14_goAlong_180 : decode prog_13_method_22_code 180 = .ok (.aload_n 0, 1) := by decide +kernel
theorem dX14_goAlong_181 : decode prog_13_method_22_code 181 = .ok (.getfield 114, 3) := by decide +kernel
theorem dX14_goAlong_184 : decode prog_13_method_22_code 184 = .ok (.if_icmp .ge 48, 3) := by decide +kernel
theorem dX14_goAlong_187 : decode prog_13_method_22_code 187 = .ok (.aload_n 0, 1) := by decide +kernel
theorem dX14_goAlong_188 : decode prog_13_method_22_code 188 = .ok (.getfield 111, 3) := by decide +kernel
theorem dX14_goAlong_191 : decode prog_13_method_22_code 191 = .ok (.iload 4, 2) := by decide +kernel
theorem dX14_goAlong_193 : decode prog_13_method_22_code 193 = .ok (.laload, 1) := by decide +kernel
theorem dX14_goAlong_194 : decode prog_13_method_22_code 194 = .ok (.aload_n 0, 1) := by decide +kernel
theorem dX14_goAlong_195 : decode prog_13_method_22_code 195 = .ok (.getfield 117, 3) := by decide +kernel
theorem dX14_goAlong_198 : decode prog_13_method_22_code 198 = .ok (.iload 4, 2) := by decide +kernel
theorem dX14_goAlong_200 : decode prog_13_method_22_code 200 = .ok (.laload, 1) := by decide +kernel
theorem dX14_goAlong_201 : decode prog_13_method_22_code 201 = .ok (.lcmp, 1) := by decide +kernel
theorem dX14_goAlong_202 : decode prog_13_method_22_code 202 = .ok (.ifCond .ge 24, 3) := by decide +kernel
theorem dX14_goAlong_205 : decode prog_13_method_22_code 205 = .ok (.aload_n 0, 1) := by decide +kernel
theorem dX14_goAlong_206 : decode prog_13_method_22_code 206 = .ok (.aload_n 1, 1) := by decide +kernel
theorem dX14_goAlong_207 : decode prog_13_method_22_code 207 = .ok (.iload_n 3, 1) := by decide +kernel
theorem dX14_goAlong_208 : decode prog_13_method_22_code 208 = .ok (.aload_n 2, 1) := by decide +kernel
theorem dX14_goAlong_209 : decode prog_13_method_22_code 209 = .ok (.aload_n 0, 1) := by decide +kernel
theorem dX14_goAlong_210 : decode prog_13_method_22_code 210 = .ok (.getfield 111, 3) := by decide +kernel
theorem dX14_goAlong_213 : decode prog_13_method_22_code 213 = .ok (.iload 4, 2) := by decide +kernel
theorem dX14_goAlong_215 : decode prog_13_method_22_code 215 = .ok (.laload, 1) := by decide +kernel
theorem dX14_goAlong_216 : decode prog_13_method_22_code 216 = .ok (.aload_n 0, 1) := by decide +kernel
theorem dX14_goAlong_217 : decode prog_13_method_22_code 217 = .ok (.getfield 117, 3) := by decide +kernel
theorem dX14_goAlong_220 : decode prog_13_method_22_code 220 = .ok (.iload 4, 2) := by decide +kernel
theorem dX14_goAlong_222 : decode prog_13_method_22_code 222 = .ok (.laload, 1) := by decide +kernel
theorem dX14_goAlong_223 : decode prog_13_method_22_code 223 = .ok (.invokevirtual 190, 3) := by decide +kernel
theorem dX14_goAlong_226 : decode prog_13_method_22_code 226 = .ok (.iinc 4 1, 3) := by decide +kernel
theorem dX14_goAlong_229 : decode prog_13_method_22_code 229 = .ok (.goto (-51), 3) := by decide +kernel
theorem dX14_goAlong_232 : decode prog_13_method_22_code 232 = .ok (.iinc 3 1, 3) := by decide +kernel
theorem dX14_goAlong_235 : decode prog_13_method_22_code 235 = .ok (.goto (-178), 3) := by decide +kernel
theorem dX14_goAlong_238 : decode prog_13_method_22_code 238 = .ok (.return_, 1) := by decide +kernel
theorem dX14_goPiece_0 : decode prog_13_method_23_code 0 = .ok (.aload_n 0, 1) := by decide +kernel
theorem dX14_goPiece_1 : decode prog_13_method_23_code 1 = .ok (.aload_n 1, 1) := by decide +kernel
theorem dX14_goPiece_2 : decode prog_13_method_23_code 2 = .ok (.iload_n 2, 1) := by decide +kernel
theorem dX14_goPiece_3 : decode prog_13_method_23_code 3 = .ok (.aload_n 3, 1) := by decide +kernel
theorem dX14_goPiece_4 : decode prog_13_method_23_code 4 = .ok (.lload 4, 2) := by decide +kernel
theorem dX14_goPiece_6 : decode prog_13_method_23_code 6 = .ok (.lload 6, 2) := by decide +kernel
theorem dX14_goPiece_8 : decode prog_13_method_23_code 8 = .ok (.invokevirtual 194, 3) := by decide +kernel
theorem dX14_goPiece_11 : decode prog_13_method_23_code 11 = .ok (.aload_n 0, 1) := by decide +kernel
theorem dX14_goPiece_12 : decode prog_13_method_23_code 12 = .ok (.getfield 120, 3) := by decide +kernel
theorem dX14_goPiece_15 : decode prog_13_method_23_code 15 = .ok (.ifCond .ne 74, 3) := by decide +kernel
theorem dX14_goPiece_18 : decode prog_13_method_23_code 18 = .ok (.aload_n 3, 1) := by decide +kernel
theorem dX14_goPiece_19 : decode prog_13_method_23_code 19 = .ok (.aload_n 1, 1) := by decide +kernel
theorem dX14_goPiece_20 : decode prog_13_method_23_code 20 = .ok (.getfield 30, 3) := by decide +kernel
theorem dX14_goPiece_23 : decode prog_13_method_23_code 23 = .ok (.iload_n 2, 1) := by decide +kernel
theorem dX14_goPiece_24 : decode prog_13_method_23_code 24 = .ok (.iaload, 1) := by decide +kernel
theorem dX14_goPiece_25 : decode prog_13_method_23_code 25 = .ok (.aload_n 1, 1) := by decide +kernel
theorem dX14_goPiece_26 : decode prog_13_method_23_code 26 = .ok (.getfield 36, 3) := by decide +kernel
theorem dX14_goPiece_29 : decode prog_13_method_23_code 29 = .ok (.iload_n 2, 1) := by decide +kernel
theorem dX14_goPiece_30 : decode prog_13_method_23_code 30 = .ok (.iaload, 1) := by decide +kernel
theorem dX14_goPiece_31 : decode prog_13_method_23_code 31 = .ok (.invokestatic 197, 3) := by decide +kernel
theorem dX14_goPiece_34 : decode prog_13_method_23_code 34 = .ok (.ifCond .lt 7, 3) := by decide +kernel
theorem dX14_goPiece_37 : decode prog_13_method_23_code 37 = .ok (.iconst 1, 1) := by decide +kernel
theorem dX14_goPiece_38 : decode prog_13_method_23_code 38 = .ok (.goto 4, 3) := by decide +kernel
theorem dX14_goPiece_41 : decode prog_13_method_23_code 41 = .ok (.iconst 0, 1) := by decide +kernel
theorem dX14_goPiece_42 : decode prog_13_method_23_code 42 = .ok (.istore 8, 2) := by decide +kernel
theorem dX14_goPiece_44 : decode prog_13_method_23_code 44 = .ok (.aload_n 0, 1) := by decide +kernel
theorem dX14_goPiece_45 : decode prog_13_method_23_code 45 = .ok (.aload_n 0, 1) := by decide +kernel
theorem dX14_goPiece_46 : decode prog_13_method_23_code 46 = .ok (.getfield 168, 3) := by decide +kernel
theorem dX14_goPiece_49 : decode prog_13_method_23_code 49 = .ok (.ifCond .ne 8, 3) := by decide +kernel
theorem dX14_goPiece_52 : decode prog_13_method_23_code 52 = .ok (.iload 8, 2) := by decide +kernel
theorem dX14_goPiece_54 : decode prog_13_method_23_code 54 = .ok (.ifCond .eq 7, 3) := by decide +kernel
theorem dX14_goPiece_57 : decode prog_13_method_23_code 57 = .ok (.iconst 1, 1) := by decide +kernel
theorem dX14_goPiece_58 : decode prog_13_method_23_code 58 = .ok (.goto 4, 3) := by decide +kernel
theorem dX14_goPiece_61 : decode prog_13_method_23_code 61 = .ok (.iconst 0, 1) := by decide +kernel
theorem dX14_goPiece_62 : decode prog_13_method_23_code 62 = .ok (.putfield 168, 3) := by decide +kernel
theorem dX14_goPiece_65 : decode prog_13_method_23_code 65 = .ok (.aload_n 0, 1) := by decide +kernel
theorem dX14_goPiece_66 : decode prog_13_method_23_code 66 = .ok (.aload_n 0, 1) := by decide +kernel
theorem dX14_goPiece_67 : decode prog_13_method_23_code 67 = .ok (.getfield 171, 3) := by decide +kernel
theorem dX14_goPiece_70 : decode prog_13_method_23_code 70 = .ok (.ifCond .ne 8, 3) := by decide +kernel
theorem dX14_goPiece_73 : decode prog_13_method_23_code 73 = .ok (.iload 8, 2) := by decide +kernel
theorem dX14_goPiece_75 : decode prog_13_method_23_code 75 = .ok (.ifCond .ne 7, 3) := by decide +kernel
theorem dX14_goPiece_78 : decode prog_13_method_23_code 78 = .ok (.iconst 1, 1) := by decide +kernel
theorem dX14_goPiece_79 : decode prog_13_method_23_code 79 = .ok (.goto 4, 3) := by decide +kernel
theorem dX14_goPiece_82 : decode prog_13_method_23_code 82 = .ok (.iconst 0, 1) := by decide +kernel
theorem dX14_goPiece_83 : decode prog_13_method_23_code 83 = .ok (.putfield 171, 3) := by decide +kernel
theorem dX14_goPiece_86 : decode prog_13_method_23_code 86 = .ok (.goto 154, 3) := by decide +kernel
theorem dX14_goPiece_89 : decode prog_13_method_23_code 89 = .ok (.aload_n 0, 1) := by decide +kernel
theorem dX14_goPiece_90 : decode prog_13_method_23_code 90 = .ok (.getfield 126, 3) := by decide +kernel
theorem dX14_goPiece_93 : decode prog_13_method_23_code 93 = .ok (.ifCond .eq 83, 3) := by decide +kernel
theorem dX14_goPiece_96 : decode prog_13_method_23_code 96 = .ok (.aload_n 0, 1) := by decide +kernel
theorem dX14_goPiece_97 : decode prog_13_method_23_code 97 = .ok (.iconst 1, 1) := by decide +kernel
theorem dX14_goPiece_98 : decode prog_13_method_23_code 98 = .ok (.putfield 174, 3) := by decide +kernel
theorem dX14_goPiece_101 : decode prog_13_method_23_code 101 = .ok (.aload_n 0, 1) := by decide +kernel
theorem dX14_goPiece_102 : decode prog_13_method_23_code 102 = .ok (.aload_n 0, 1) := by decide +kernel
theorem dX14_goPiece_103 : decode prog_13_method_23_code 103 = .ok (.getfield 168, 3) := by decide +kernel
theorem dX14_goPiece_106 : decode prog_13_method_23_code 106 = .ok (.ifCond .ne 11, 3) := by decide +kernel
theorem dX14_goPiece_109 : decode prog_13_method_23_code 109 = .ok (.aload_n 3, 1) := by decide +kernel
theorem dX14_goPiece_110 : decode prog_13_method_23_code 110 = .ok (.getfield 75, 3) := by decide +kernel
theorem dX14_goPiece_113 : decode prog_13_method_23_code 113 = .ok (.iconst 1, 1) := by decide +kernel
theorem dX14_goPiece_114 : decode prog_13_method_23_code 114 = .ok (.if_icmp .ne 7, 3) := by decide +kernel
theorem dX14_goPiece_117 : decode prog_13_method_23_code 117 = .ok (.iconst 1, 1) := by decide +kernel
theorem dX14_goPiece_118 : decode prog_13_method_23_code 118 = .ok (.goto 4, 3) := by decide +kernel
theorem dX14_goPiece_121 : decode prog_13_method_23_code 121 = .ok (.iconst 0, 1) := by decide +kernel
theorem dX14_goPiece_122 : decode prog_13_method_23_code 122 = .ok (.putfield 168, 3) := by decide +kernel
theorem dX14_goPiece_125 : decode prog_13_method_23_code 125 = .ok (.aload_n 1, 1) := by decide +kernel
theorem dX14_goPiece_126 : decode prog_13_method_23_code 126 = .ok (.getfield 75, 3) := by decide +kernel
theorem dX14_goPiece_129 : decode prog_13_method_23_code 129 = .ok (.iconst 2, 1) := by decide +kernel
theorem dX14_goPiece_130 : decode prog_13_method_23_code 130 = .ok (.if_icmp .ne 110, 3) := by decide +kernel
theorem dX14_goPiece_133 : decode prog_13_method_23_code 133 = .ok (.aload_n 3, 1) := by decide +kernel
theorem dX14_goPiece_134 : decode prog_13_method_23_code 134 = .ok (.getfield 75, 3) := by decide +kernel
theorem dX14_goPiece_137 : decode prog_13_method_23_code 137 = .ok (.iconst 2, 1) := by decide +kernel
theorem dX14_goPiece_138 : decode prog_13_method_23_code 138 = .ok (.if_icmp .ne 102, 3) := by decide +kernel
theorem dX14_goPiece_141 : decode prog_13_method_23_code 141 = .ok (.aload_n 0, 1) := by decide +kernel
theorem dX14_goPiece_142 : decode prog_13_method_23_code 142 = .ok (.aload_n 0, 1) := by decide +kernel
theorem dX14_goPiece_143 : decode prog_13_method_23_code 143 = .ok (.getfield 177, 3) := by decide +kernel
theorem dX14_goPiece_146 : decode prog_13_method_23_code 146 = .ok (.ifCond .ne 19, 3) := by decide +kernel
theorem dX14_goPiece_149 : decode prog_13_method_23_code 149 = .ok (.aload_n 0, 1) := by decide +kernel
theorem dX14_goPiece_150 : decode prog_13_method_23_code 150 = .ok (.getfield 129, 3) := by decide +kernel
theorem dX14_goPiece_153 : decode prog_13_method_23_code 153 = .ok (.aload_n 1, 1) := by decide +kernel
theorem dX14_goPiece_154 : decode prog_13_method_23_code 154 = .ok (.aload_n 1, 1) := by decide +kernel
theorem dX14_goPiece_155 : decode prog_13_method_23_code 155 = .ok (.iload_n 2, 1) := by decide +kernel
theorem dX14_goPiece_156 : decode prog_13_method_23_code 156 = .ok (.invokestatic 160, 3) := by decide +kernel
theorem dX14_goPiece_159 : decode prog_13_method_23_code 159 = .ok (.invokestatic 183, 3) := by decide +kernel
theorem dX14_goPiece_162 : decode prog_13_method_23_code 162 = .ok (.if_icmp .ne 7, 3) := by decide +kernel
theorem dX14_goPiece_165 : decode prog_13_method_23_code 165 = .ok (.iconst 1, 1) := by decide +kernel
theorem dX14_goPiece_166 : decode prog_13_method_23_code 166 = .ok (.goto 4, 3) := by decide +kernel
theorem dX14_goPiece_169 : decode prog_13_method_23_code 169 = .ok (.iconst 0, 1) := by decide +kernel
theorem dX14_goPiece_170 : decode prog_13_method_23_code 170 = .ok (.putfield 177, 3) := by decide +kernel
theorem dX14_goPiece_173 : decode prog_13_method_23_code 173 = .ok (.goto 67, 3) := by decide +kernel
theorem dX14_goPiece_176 : decode prog_13_method_23_code 176 = .ok (.aload_n 3, 1) := by decide +kernel
theorem dX14_goPiece_177 : decode prog_13_method_23_code 177 = .ok (.getfield 75, 3) := by decide +kernel
theorem dX14_goPiece_180 : decode prog_13_method_23_code 180 = .ok (.iconst 2, 1) := by decide +kernel
theorem dX14_goPiece_181 : decode prog_13_method_23_code 181 = .ok (.if_icmp .ne 14, 3) := by decide +kernel
theorem dX14_goPiece_184 : decode prog_13_method_23_code 184 = .ok (.aload_n 0, 1) := by decide +kernel
theorem dX14_goPiece_185 : decode prog_13_method_23_code 185 = .ok (.getfield 141, 3) := by decide +kernel
theorem dX14_goPiece_188 : decode prog_13_method_23_code 188 = .ok (.ifCond .eq 7, 3) := by decide +kernel
theorem dX14_goPiece_191 : decode prog_13_method_23_code 191 = .ok (.iconst 1, 1) := by decide +kernel
theorem dX14_goPiece_192 : decode prog_13_method_23_code 192 = .ok (.goto 4, 3) := by decide +kernel
theorem dX14_goPiece_195 : decode prog_13_method_23_code 195 = .ok (.iconst 0, 1) := by decide +kernel
theorem dX14_goPiece_196 : decode prog_13_method_23_code 196 = .ok (.istore 8, 2) := by decide +kernel
theorem dX14_goPiece_198 : decode prog_13_method_23_code 198 = .ok (.aload_n 0, 1) := by decide +kernel
theorem dX14_goPiece_199 : decode prog_13_method_23_code 199 = .ok (.aload_n 0, 1) := by decide +kernel
theorem dX14_goPiece_200 : decode prog_13_method_23_code 200 = .ok (.getfield 168, 3) := by decide +kernel
theorem dX14_goPiece_203 : decode prog_13_method_23_code 203 = .ok (.ifCond .ne 8, 3) := by decide +kernel
theorem dX14_goPiece_206 : decode prog_13_method_23_code 206 = .ok (.iload 8, 2) := by decide +kernel
theorem dX14_goPiece_208 : decode prog_13_method_23_code 208 = .ok (.ifCond .eq 7, 3) := by decide +kernel
theorem dX14_goPiece_211 : decode prog_13_method_23_code 211 = .ok (.iconst 1, 1) := by decide +kernel
theorem dX14_goPiece_212 : decode prog_13_method_23_code 212 = .ok (.goto 4, 3) := by decide +kernel
theorem dX14_goPiece_215 : decode prog_13_method_23_code 215 = .ok (.iconst 0, 1) := by decide +kernel
theorem dX14_goPiece_216 : decode prog_13_method_23_code 216 = .ok (.putfield 168, 3) := by decide +kernel
theorem dX14_goPiece_219 : decode prog_13_method_23_code 219 = .ok (.aload_n 0, 1) := by decide +kernel
theorem dX14_goPiece_220 : decode prog_13_method_23_code 220 = .ok (.aload_n 0, 1) := by decide +kernel
theorem dX14_goPiece_221 : decode prog_13_method_23_code 221 = .ok (.getfield 171, 3) := by decide +kernel
theorem dX14_goPiece_224 : decode prog_13_method_23_code 224 = .ok (.ifCond .ne 8, 3) := by decide +kernel
theorem dX14_goPiece_227 : decode prog_13_method_23_code 227 = .ok (.iload 8, 2) := by decide +kernel
theorem dX14_goPiece_229 : decode prog_13_method_23_code 229 = .ok (.ifCond .ne 7, 3) := by decide +kernel
theorem dX14_goPiece_232 : decode prog_13_method_23_code 232 = .ok (.iconst 1, 1) := by decide +kernel
theorem dX14_goPiece_233 : decode prog_13_method_23_code 233 = .ok (.goto 4, 3) := by decide +kernel
theorem dX14_goPiece_236 : decode prog_13_method_23_code 236 = .ok (.iconst 0, 1) := by decide +kernel
theorem dX14_goPiece_237 : decode prog_13_method_23_code 237 = .ok (.putfield 171, 3) := by decide +kernel
theorem dX14_goPiece_240 : decode prog_13_method_23_code 240 = .ok (.return_, 1) := by decide +kernel
theorem dX14_extreme_0 : decode prog_13_method_24_code 0 = .ok (.iload_n 1, 1) := by decide +kernel
theorem dX14_extreme_1 : decode prog_13_method_24_code 1 = .ok (.ifCond .eq 12, 3) := by decide +kernel
theorem dX14_extreme_4 : decode prog_13_method_24_code 4 = .ok (.aload_n 0, 1) := by decide +kernel
theorem dX14_extreme_5 : decode prog_13_method_24_code 5 = .ok (.getfield 30, 3) := by decide +kernel
theorem dX14_extreme_8 : decode prog_13_method_24_code 8 = .ok (.iconst 0, 1) := by decide +kernel
theorem dX14_extreme_9 : decode prog_13_method_24_code 9 = .ok (.iaload, 1) := by decide +kernel
theorem dX14_extreme_10 : decode prog_13_method_24_code 10 = .ok (.goto 9, 3) := by decide +kernel
theorem dX14_extreme_13 : decode prog_13_method_24_code 13 = .ok (.aload_n 0, 1) := by decide +kernel
theorem dX14_extreme_14 : decode prog_13_method_24_code 14 = .ok (.getfield 36, 3) := by decide +kernel
theorem dX14_extreme_17 : decode prog_13_method_24_code 17 = .ok (.iconst 0, 1) := by decide +kernel
