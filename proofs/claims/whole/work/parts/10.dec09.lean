theorem dX14_fromWay_10 : decode prog_13_method_43_code 10 = .ok (.getfield 30, 3) := by decide +kernel
theorem dX14_fromWay_13 : decode prog_13_method_43_code 13 = .ok (.iload_n 2, 1) := by decide +kernel
theorem dX14_fromWay_14 : decode prog_13_method_43_code 14 = .ok (.iaload, 1) := by decide +kernel
theorem dX14_fromWay_15 : decode prog_13_method_43_code 15 = .ok (.i2l, 1) := by decide +kernel
theorem dX14_fromWay_16 : decode prog_13_method_43_code 16 = .ok (.lsub, 1) := by decide +kernel
theorem dX14_fromWay_17 : decode prog_13_method_43_code 17 = .ok (.lstore 5, 2) := by decide +kernel
theorem dX14_fromWay_19 : decode prog_13_method_43_code 19 = .ok (.aload_n 1, 1) := by decide +kernel
theorem dX14_fromWay_20 : decode prog_13_method_43_code 20 = .ok (.getfield 36, 3) := by decide +kernel
theorem dX14_fromWay_23 : decode prog_13_method_43_code 23 = .ok (.iload_n 2, 1) := by decide +kernel
theorem dX14_fromWay_24 : decode prog_13_method_43_code 24 = .ok (.iconst 1, 1) := by decide +kernel
theorem dX14_fromWay_25 : decode prog_13_method_43_code 25 = .ok (.iadd, 1) := by decide +kernel
theorem dX14_fromWay_26 : decode prog_13_method_43_code 26 = .ok (.iaload, 1) := by decide +kernel
theorem dX14_fromWay_27 : decode prog_13_method_43_code 27 = .ok (.i2l, 1) := by decide +kernel
theorem dX14_fromWay_28 : decode prog_13_method_43_code 28 = .ok (.aload_n 1, 1) := by decide +kernel
theorem dX14_fromWay_29 : decode prog_13_method_43_code 29 = .ok (.getfield 36, 3) := by decide +kernel
theorem dX14_fromWay_32 : decode prog_13_method_43_code 32 = .ok (.iload_n 2, 1) := by decide +kernel
theorem dX14_fromWay_33 : decode prog_13_method_43_code 33 = .ok (.iaload, 1) := by decide +kernel
theorem dX14_fromWay_34 : decode prog_13_method_43_code 34 = .ok (.i2l, 1) := by decide +kernel
theorem dX14_fromWay_35 : decode prog_13_method_43_code 35 = .ok (.lsub, 1) := by decide +kernel
theorem dX14_fromWay_36 : decode prog_13_method_43_code 36 = .ok (.lstore 7, 2) := by decide +kernel
theorem dX14_fromWay_38 : decode prog_13_method_43_code 38 = .ok (.iload_n 3, 1) := by decide +kernel
theorem dX14_fromWay_39 : decode prog_13_method_43_code 39 = .ok (.i2l, 1) := by decide +kernel
theorem dX14_fromWay_40 : decode prog_13_method_43_code 40 = .ok (.aload_n 1, 1) := by decide +kernel
theorem dX14_fromWay_41 : decode prog_13_method_43_code 41 = .ok (.getfield 30, 3) := by decide +kernel
theorem dX14_fromWay_44 : decode prog_13_method_43_code 44 = .ok (.iload_n 2, 1) := by decide +kernel
theorem dX14_fromWay_45 : decode prog_13_method_43_code 45 = .ok (.iaload, 1) := by decide +kernel
theorem dX14_fromWay_46 : decode prog_13_method_43_code 46 = .ok (.i2l, 1) := by decide +kernel
theorem dX14_fromWay_47 : decode prog_13_method_43_code 47 = .ok (.lsub, 1) := by decide +kernel
theorem dX14_fromWay_48 : decode prog_13_method_43_code 48 = .ok (.lstore 9, 2) := by decide +kernel
theorem dX14_fromWay_50 : decode prog_13_method_43_code 50 = .ok (.iload 4, 2) := by decide +kernel
theorem dX14_fromWay_52 : decode prog_13_method_43_code 52 = .ok (.i2l, 1) := by decide +kernel
theorem dX14_fromWay_53 : decode prog_13_method_43_code 53 = .ok (.aload_n 1, 1) := by decide +kernel
theorem dX14_fromWay_54 : decode prog_13_method_43_code 54 = .ok (.getfield 36, 3) := by decide +kernel
theorem dX14_fromWay_57 : decode prog_13_method_43_code 57 = .ok (.iload_n 2, 1) := by decide +kernel
theorem dX14_fromWay_58 : decode prog_13_method_43_code 58 = .ok (.iaload, 1) := by decide +kernel
theorem dX14_fromWay_59 : decode prog_13_method_43_code 59 = .ok (.i2l, 1) := by decide +kernel
theorem dX14_fromWay_60 : decode prog_13_method_43_code 60 = .ok (.lsub, 1) := by decide +kernel
theorem dX14_fromWay_61 : decode prog_13_method_43_code 61 = .ok (.lstore 11, 2) := by decide +kernel
theorem dX14_fromWay_63 : decode prog_13_method_43_code 63 = .ok (.lload 5, 2) := by decide +kernel
theorem dX14_fromWay_65 : decode prog_13_method_43_code 65 = .ok (.lload 7, 2) := by decide +kernel
theorem dX14_fromWay_67 : decode prog_13_method_43_code 67 = .ok (.lload 9, 2) := by decide +kernel
theorem dX14_fromWay_69 : decode prog_13_method_43_code 69 = .ok (.lload 11, 2) := by decide +kernel
theorem dX14_fromWay_71 : decode prog_13_method_43_code 71 = .ok (.invokestatic 123, 3) := by decide +kernel
theorem dX14_fromWay_74 : decode prog_13_method_43_code 74 = .ok (.lstore 13, 2) := by decide +kernel
theorem dX14_fromWay_76 : decode prog_13_method_43_code 76 = .ok (.lload 5, 2) := by decide +kernel
theorem dX14_fromWay_78 : decode prog_13_method_43_code 78 = .ok (.lload 7, 2) := by decide +kernel
theorem dX14_fromWay_80 : decode prog_13_method_43_code 80 = .ok (.lload 5, 2) := by decide +kernel
theorem dX14_fromWay_82 : decode prog_13_method_43_code 82 = .ok (.lload 7, 2) := by decide +kernel
theorem dX14_fromWay_84 : decode prog_13_method_43_code 84 = .ok (.invokestatic 123, 3) := by decide +kernel
theorem dX14_fromWay_87 : decode prog_13_method_43_code 87 = .ok (.lstore 15, 2) := by decide +kernel
theorem dX14_fromWay_89 : decode prog_13_method_43_code 89 = .ok (.lload 13, 2) := by decide +kernel
theorem dX14_fromWay_91 : decode prog_13_method_43_code 91 = .ok (.lconst 0, 1) := by decide +kernel
theorem dX14_fromWay_92 : decode prog_13_method_43_code 92 = .ok (.lcmp, 1) := by decide +kernel
theorem dX14_fromWay_93 : decode prog_13_method_43_code 93 = .ok (.ifCond .gt 14, 3) := by decide +kernel
theorem dX14_fromWay_96 : decode prog_13_method_43_code 96 = .ok (.aload_n 0, 1) := by decide +kernel
theorem dX14_fromWay_97 : decode prog_13_method_43_code 97 = .ok (.lload 9, 2) := by decide +kernel
theorem dX14_fromWay_99 : decode prog_13_method_43_code 99 = .ok (.lload 11, 2) := by decide +kernel
theorem dX14_fromWay_101 : decode prog_13_method_43_code 101 = .ok (.invokevirtual 304, 3) := by decide +kernel
theorem dX14_fromWay_104 : decode prog_13_method_43_code 104 = .ok (.goto 93, 3) := by decide +kernel
theorem dX14_fromWay_107 : decode prog_13_method_43_code 107 = .ok (.lload 13, 2) := by decide +kernel
theorem dX14_fromWay_109 : decode prog_13_method_43_code 109 = .ok (.lload 15, 2) := by decide +kernel
theorem dX14_fromWay_111 : decode prog_13_method_43_code 111 = .ok (.lcmp, 1) := by decide +kernel
theorem dX14_fromWay_112 : decode prog_13_method_43_code 112 = .ok (.ifCond .lt 20, 3) := by decide +kernel
theorem dX14_fromWay_115 : decode prog_13_method_43_code 115 = .ok (.aload_n 0, 1) := by decide +kernel
theorem dX14_fromWay_116 : decode prog_13_method_43_code 116 = .ok (.lload 9, 2) := by decide +kernel
theorem dX14_fromWay_118 : decode prog_13_method_43_code 118 = .ok (.lload 5, 2) := by decide +kernel
theorem dX14_fromWay_120 : decode prog_13_method_43_code 120 = .ok (.lsub, 1) := by decide +kernel
theorem dX14_fromWay_121 : decode prog_13_method_43_code 121 = .ok (.lload 11, 2) := by decide +kernel
theorem dX14_fromWay_123 : decode prog_13_method_43_code 123 = .ok (.lload 7, 2) := by decide +kernel
theorem dX14_fromWay_125 : decode prog_13_method_43_code 125 = .ok (.lsub, 1) := by decide +kernel
theorem dX14_fromWay_126 : decode prog_13_method_43_code 126 = .ok (.invokevirtual 304, 3) := by decide +kernel
theorem dX14_fromWay_129 : decode prog_13_method_43_code 129 = .ok (.goto 68, 3) := by decide +kernel
theorem dX14_fromWay_132 : decode prog_13_method_43_code 132 = .ok (.lload 5, 2) := by decide +kernel
theorem dX14_fromWay_134 : decode prog_13_method_43_code 134 = .ok (.lload 7, 2) := by decide +kernel
theorem dX14_fromWay_136 : decode prog_13_method_43_code 136 = .ok (.lload 9, 2) := by decide +kernel
theorem dX14_fromWay_138 : decode prog_13_method_43_code 138 = .ok (.lload 11, 2) := by decide +kernel
theorem dX14_fromWay_140 : decode prog_13_method_43_code 140 = .ok (.invokestatic 39, 3) := by decide +kernel
theorem dX14_fromWay_143 : decode prog_13_method_43_code 143 = .ok (.lstore 17, 2) := by decide +kernel
theorem dX14_fromWay_145 : decode prog_13_method_43_code 145 = .ok (.aload_n 0, 1) := by decide +kernel
theorem dX14_fromWay_146 : decode prog_13_method_43_code 146 = .ok (.getfield 5, 3) := by decide +kernel
theorem dX14_fromWay_149 : decode prog_13_method_43_code 149 = .ok (.lload 17, 2) := by decide +kernel
theorem dX14_fromWay_151 : decode prog_13_method_43_code 151 = .ok (.lconst 0, 1) := by decide +kernel
theorem dX14_fromWay_152 : decode prog_13_method_43_code 152 = .ok (.lcmp, 1) := by decide +kernel
theorem dX14_fromWay_153 : decode prog_13_method_43_code 153 = .ok (.ifCond .ge 9, 3) := by decide +kernel
theorem dX14_fromWay_156 : decode prog_13_method_43_code 156 = .ok (.lload 17, 2) := by decide +kernel
theorem dX14_fromWay_158 : decode prog_13_method_43_code 158 = .ok (.lneg, 1) := by decide +kernel
theorem dX14_fromWay_159 : decode prog_13_method_43_code 159 = .ok (.goto 5, 3) := by decide +kernel
theorem dX14_fromWay_162 : decode prog_13_method_43_code 162 = .ok (.lload 17, 2) := by decide +kernel
theorem dX14_fromWay_164 : decode prog_13_method_43_code 164 = .ok (.invokestatic 9, 3) := by decide +kernel
theorem dX14_fromWay_167 : decode prog_13_method_43_code 167 = .ok (.aload_n 0, 1) := by decide +kernel
theorem dX14_fromWay_168 : decode prog_13_method_43_code 168 = .ok (.getfield 296, 3) := by decide +kernel
theorem dX14_fromWay_171 : decode prog_13_method_43_code 171 = .ok (.getfield 288, 3) := by decide +kernel
theorem dX14_fromWay_174 : decode prog_13_method_43_code 174 = .ok (.aload_n 0, 1) := by decide +kernel
theorem dX14_fromWay_175 : decode prog_13_method_43_code 175 = .ok (.getfield 5, 3) := by decide +kernel
theorem dX14_fromWay_178 : decode prog_13_method_43_code 178 = .ok (.aload_n 0, 1) := by decide +kernel
theorem dX14_fromWay_179 : decode prog_13_method_43_code 179 = .ok (.getfield 5, 3) := by decide +kernel
theorem dX14_fromWay_182 : decode prog_13_method_43_code 182 = .ok (.invokestatic 19, 3) := by decide +kernel
theorem dX14_fromWay_185 : decode prog_13_method_43_code 185 = .ok (.aload_n 0, 1) := by decide +kernel
theorem dX14_fromWay_186 : decode prog_13_method_43_code 186 = .ok (.getfield 296, 3) := by decide +kernel
theorem dX14_fromWay_189 : decode prog_13_method_43_code 189 = .ok (.getfield 293, 3) := by decide +kernel
theorem dX14_fromWay_192 : decode prog_13_method_43_code 192 = .ok (.lload 15, 2) := by decide +kernel
theorem dX14_fromWay_194 : decode prog_13_method_43_code 194 = .ok (.invokestatic 9, 3) := by decide +kernel
theorem dX14_fromWay_197 : decode prog_13_method_43_code 197 = .ok (.return_, 1) := by decide +kernel
theorem dX14_distance_0 : decode prog_13_method_44_code 0 = .ok (.aload_n 1, 1) := by decide +kernel
theorem dX14_distance_1 : decode prog_13_method_44_code 1 = .ok (.iload_n 2, 1) := by decide +kernel
theorem dX14_distance_2 : decode prog_13_method_44_code 2 = .ok (.iload_n 3, 1) := by decide +kernel
theorem dX14_distance_3 : decode prog_13_method_44_code 3 = .ok (.invokestatic 197, 3) := by decide +kernel
theorem dX14_distance_6 : decode prog_13_method_44_code 6 = .ok (.ifCond .lt 19, 3) := by decide +kernel
theorem dX14_distance_9 : decode prog_13_method_44_code 9 = .ok (.aload_n 0, 1) := by decide +kernel
theorem dX14_distance_10 : decode prog_13_method_44_code 10 = .ok (.lconst 0, 1) := by decide +kernel
theorem dX14_distance_11 : decode prog_13_method_44_code 11 = .ok (.lconst 1, 1) := by decide +kernel
theorem dX14_distance_12 : decode prog_13_method_44_code 12 = .ok (.invokevirtual 300, 3) := by decide +kernel
theorem dX14_distance_15 : decode prog_13_method_44_code 15 = .ok (.aload 4, 2) := by decide +kernel
theorem dX14_distance_17 : decode prog_13_method_44_code 17 = .ok (.aload_n 0, 1) := by decide +kernel
theorem dX14_distance_18 : decode prog_13_method_44_code 18 = .ok (.getfield 296, 3) := by decide +kernel
theorem dX14_distance_21 : decode prog_13_method_44_code 21 = .ok (.invokevirtual 307, 3) := by decide +kernel
theorem dX14_distance_24 : decode prog_13_method_44_code 24 = .ok (.return_, 1) := by decide +kernel
theorem dX14_distance_25 : decode prog_13_method_44_code 25 = .ok (.aload_n 0, 1) := by decide +kernel
theorem dX14_distance_26 : decode prog_13_method_44_code 26 = .ok (.iload_n 2, 1) := by decide +kernel
theorem dX14_distance_27 : decode prog_13_method_44_code 27 = .ok (.i2l, 1) := by decide +kernel
theorem dX14_distance_28 : decode prog_13_method_44_code 28 = .ok (.aload_n 1, 1) := by decide +kernel
theorem dX14_distance_29 : decode prog_13_method_44_code 29 = .ok (.getfield 30, 3) := by decide +kernel
theorem dX14_distance_32 : decode prog_13_method_44_code 32 = .ok (.iconst 0, 1) := by decide +kernel
theorem dX14_distance_33 : decode prog_13_method_44_code 33 = .ok (.iaload, 1) := by decide +kernel
theorem dX14_distance_34 : decode prog_13_method_44_code 34 = .ok (.i2l, 1) := by decide +kernel
theorem dX14_distance_35 : decode prog_13_method_44_code 35 = .ok (.lsub, 1) := by decide +kernel
theorem dX14_distance_36 : decode prog_13_method_44_code 36 = .ok (.iload_n 3, 1) := by decide +kernel
theorem dX14_distance_37 : decode prog_13_method_44_code 37 = .ok (.i2l, 1) := by decide +kernel
theorem dX14_distance_38 : decode prog_13_method_44_code 38 = .ok (.aload_n 1, 1) := by decide +kernel
theorem dX14_distance_39 : decode prog_13_method_44_code 39 = .ok (.getfield 36, 3) := by decide +kernel
theorem dX14_distance_42 : decode prog_13_method_44_code 42 = .ok (.iconst 0, 1) := by decide +kernel
theorem dX14_distance_43 : decode prog_13_method_44_code 43 = .ok (.iaload, 1) := by decide +kernel
theorem dX14_distance_44 : decode prog_13_method_44_code 44 = .ok (.i2l, 1) := by decide +kernel
theorem dX14_distance_45 : decode prog_13_method_44_code 45 = .ok (.lsub, 1) := by decide +kernel
theorem dX14_distance_46 : decode prog_13_method_44_code 46 = .ok (.invokevirtual 304, 3) := by decide +kernel
theorem dX14_distance_49 : decode prog_13_method_44_code 49 = .ok (.aload 4, 2) := by decide +kernel
theorem dX14_distance_51 : decode prog_13_method_44_code 51 = .ok (.aload_n 0, 1) := by decide +kernel
theorem dX14_distance_52 : decode prog_13_method_44_code 52 = .ok (.getfield 296, 3) := by decide +kernel
theorem dX14_distance_55 : decode prog_13_method_44_code 55 = .ok (.invokevirtual 307, 3) := by decide +kernel
theorem dX14_distance_58 : decode prog_13_method_44_code 58 = .ok (.iconst 0, 1) := by decide +kernel
theorem dX14_distance_59 : decode prog_13_method_44_code 59 = .ok (.istore 5, 2) := by decide +kernel
theorem dX14_distance_61 : decode prog_13_method_44_code 61 = .ok (.iload 5, 2) := by decide +kernel
theorem dX14_distance_63 : decode prog_13_method_44_code 63 = .ok (.iconst 1, 1) := by decide +kernel
theorem dX14_distance_64 : decode prog_13_method_44_code 64 = .ok (.iadd, 1) := by decide +kernel
theorem dX14_distance_65 : decode prog_13_method_44_code 65 = .ok (.aload_n 1, 1) := by decide +kernel
theorem dX14_distance_66 : decode prog_13_method_44_code 66 = .ok (.getfield 79, 3) := by decide +kernel
theorem dX14_distance_69 : decode prog_13_method_44_code 69 = .ok (.if_icmp .ge 52, 3) := by decide +kernel
theorem dX14_distance_72 : decode prog_13_method_44_code 72 = .ok (.aload_n 1, 1) := by decide +kernel
theorem dX14_distance_73 : decode prog_13_method_44_code 73 = .ok (.iload 5, 2) := by decide +kernel
theorem dX14_distance_75 : decode prog_13_method_44_code 75 = .ok (.invokevirtual 82, 3) := by decide +kernel
theorem dX14_distance_78 : decode prog_13_method_44_code 78 = .ok (.ifCond .ne 6, 3) := by decide +kernel
theorem dX14_distance_81 : decode prog_13_method_44_code 81 = .ok (.goto 34, 3) := by decide +kernel
theorem dX14_distance_84 : decode prog_13_method_44_code 84 = .ok (.aload_n 0, 1) := by decide +kernel
theorem dX14_distance_85 : decode prog_13_method_44_code 85 = .ok (.aload_n 1, 1) := by decide +kernel
theorem dX14_distance_86 : decode prog_13_method_44_code 86 = .ok (.iload 5, 2) := by decide +kernel
theorem dX14_distance_88 : decode prog_13_method_44_code 88 = .ok (.iload_n 2, 1) := by decide +kernel
theorem dX14_distance_89 : decode prog_13_method_44_code 89 = .ok (.iload_n 3, 1) := by decide +kernel
theorem dX14_distance_90 : decode prog_13_method_44_code 90 = .ok (.invokevirtual 311, 3) := by decide +kernel
theorem dX14_distance_93 : decode prog_13_method_44_code 93 = .ok (.aload_n 0, 1) := by decide +kernel
theorem dX14_distance_94 : decode prog_13_method_44_code 94 = .ok (.aload_n 0, 1) := by decide +kernel
theorem dX14_distance_95 : decode prog_13_method_44_code 95 = .ok (.getfield 296, 3) := by decide +kernel
theorem dX14_distance_98 : decode prog_13_method_44_code 98 = .ok (.aload 4, 2) := by decide +kernel
theorem dX14_distance_100 : decode prog_13_method_44_code 100 = .ok (.invokevirtual 315, 3) := by decide +kernel
theorem dX14_distance_103 : decode prog_13_method_44_code 103 = .ok (.ifCond .ge 12, 3) := by decide +kernel
theorem dX14_distance_106 : decode prog_13_method_44_code 106 = .ok (.aload 4, 2) := by decide +kernel
theorem dX14_distance_108 : decode prog_13_method_44_code 108 = .ok (.aload_n 0, 1) := by decide +kernel
theorem dX14_distance_109 : decode prog_13_method_44_code 109 = .ok (.getfield 296, 3) := by decide +kernel
theorem dX14_distance_112 : decode prog_13_method_44_code 112 = .ok (.invokevirtual 307, 3) := by decide +kernel
theorem dX14_distance_115 : decode prog_13_method_44_code 115 = .ok (.iinc 5 1, 3) := by decide +kernel
theorem dX14_distance_118 : decode prog_13_method_44_code 118 = .ok (.goto (-57), 3) := by decide +kernel
theorem dX14_distance_121 : decode prog_13_method_44_code 121 = .ok (.return_, 1) := by decide +kernel
theorem dX14_fall_0 : decode prog_13_method_45_code 0 = .ok (.aload_n 0, 1) := by decide +kernel
theorem dX14_fall_1 : decode prog_13_method_45_code 1 = .ok (.iconst 1, 1) := by decide +kernel
theorem dX14_fall_2 : decode prog_13_method_45_code 2 = .ok (.putfield 318, 3) := by decide +kernel
theorem dX14_fall_5 : decode prog_13_method_45_code 5 = .ok (.aload_n 0, 1) := by decide +kernel
theorem dX14_fall_6 : decode prog_13_method_45_code 6 = .ok (.iconst 0, 1) := by decide +kernel
theorem dX14_fall_7 : decode prog_13_method_45_code 7 = .ok (.putfield 321, 3) := by decide +kernel
theorem dX14_fall_10 : decode prog_13_method_45_code 10 = .ok (.aload_n 0, 1) := by decide +kernel
theorem dX14_fall_11 : decode prog_13_method_45_code 11 = .ok (.iconst (-1), 1) := by decide +kernel
theorem dX14_fall_12 : decode prog_13_method_45_code 12 = .ok (.putfield 323, 3) := by decide +kernel
theorem dX14_fall_15 : decode prog_13_method_45_code 15 = .ok (.return_, 1) := by decide +kernel
theorem dX14_isBlockWritten_0 : decode prog_13_method_46_code 0 = .ok (.aload_n 0, 1) := by decide +kernel
theorem dX14_isBlockWritten_1 : decode prog_13_method_46_code 1 = .ok (.getfield 323, 3) := by decide +kernel
theorem dX14_isBlockWritten_4 : decode prog_13_method_46_code 4 = .ok (.ifCond .eq 5, 3) := by decide +kernel
theorem dX14_isBlockWritten_7 : decode prog_13_method_46_code 7 = .ok (.iconst 1, 1) := by decide +kernel
theorem dX14_isBlockWritten_8 : decode prog_13_method_46_code 8 = .ok (.ireturn, 1) := by decide +kernel
theorem dX14_isBlockWritten_9 : decode prog_13_method_46_code 9 = .ok (.aload_n 0, 1) := by decide +kernel
theorem dX14_isBlockWritten_10 : decode prog_13_method_46_code 10 = .ok (.dup, 1) := by decide +kernel
theorem dX14_isBlockWritten_11 : decode prog_13_method_46_code 11 = .ok (.getfield 326, 3) := by decide +kernel
theorem dX14_isBlockWritten_14 : decode prog_13_method_46_code 14 = .ok (.iconst 1, 1) := by decide +kernel
theorem dX14_isBlockWritten_15 : decode prog_13_method_46_code 15 = .ok (.isub, 1) := by decide +kernel
theorem dX14_isBlockWritten_16 : decode prog_13_method_46_code 16 = .ok (.putfield 326, 3) := by decide +kernel
theorem dX14_isBlockWritten_19 : decode prog_13_method_46_code 19 = .ok (.aload_n 0, 1) := by decide +kernel
theorem dX14_isBlockWritten_20 : decode prog_13_method_46_code 20 = .ok (.getfield 326, 3) := by decide +kernel
theorem dX14_isBlockWritten_23 : decode prog_13_method_46_code 23 = .ok (.ifCond .le 5, 3) := by decide +kernel
theorem dX14_isBlockWritten_26 : decode prog_13_method_46_code 26 = .ok (.iconst 1, 1) := by decide +kernel
theorem dX14_isBlockWritten_27 : decode prog_13_method_46_code 27 = .ok (.ireturn, 1) := by decide +kernel
theorem dX14_isBlockWritten_28 : decode prog_13_method_46_code 28 = .ok (.aload_n 0, 1) := by decide +kernel
theorem dX14_isBlockWritten_29 : decode prog_13_method_46_code 29 = .ok (.invokevirtual 329, 3) := by decide +kernel
theorem dX14_isBlockWritten_32 : decode prog_13_method_46_code 32 = .ok (.iconst 0, 1) := by decide +kernel
theorem dX14_isBlockWritten_33 : decode prog_13_method_46_code 33 = .ok (.ireturn, 1) := by decide +kernel
theorem dX14_isSaved_0 : decode prog_13_method_47_code 0 = .ok (.aload_n 0, 1) := by decide +kernel
theorem dX14_isSaved_1 : decode prog_13_method_47_code 1 = .ok (.getfield 323, 3) := by decide +kernel
theorem dX14_isSaved_4 : decode prog_13_method_47_code 4 = .ok (.iconst 1, 1) := by decide +kernel
theorem dX14_isSaved_5 : decode prog_13_method_47_code 5 = .ok (.if_icmp .ne 9, 3) := by decide +kernel
theorem dX14_isSaved_8 : decode prog_13_method_47_code 8 = .ok (.aload_n 0, 1) := by decide +kernel
theorem dX14_isSaved_9 : decode prog_13_method_47_code 9 = .ok (.invokevirtual 329, 3) := by decide +kernel
theorem dX14_isSaved_12 : decode prog_13_method_47_code 12 = .ok (.iconst 0, 1) := by decide +kernel
theorem dX14_isSaved_13 : decode prog_13_method_47_code 13 = .ok (.ireturn, 1) := by decide +kernel
theorem dX14_isSaved_14 : decode prog_13_method_47_code 14 = .ok (.aload_n 0, 1) := by decide +kernel
theorem dX14_isSaved_15 : decode prog_13_method_47_code 15 = .ok (.iconst 0, 1) := by decide +kernel
theorem dX14_isSaved_16 : decode prog_13_method_47_code 16 = .ok (.putfield 332, 3) := by decide +kernel
theorem dX14_isSaved_19 : decode prog_13_method_47_code 19 = .ok (.aload_n 0, 1) := by decide +kernel
theorem dX14_isSaved_20 : decode prog_13_method_47_code 20 = .ok (.dup, 1) := by decide +kernel
theorem dX14_isSaved_21 : decode prog_13_method_47_code 21 = .ok (.getfield 335, 3) := by decide +kernel
theorem dX14_isSaved_24 : decode prog_13_method_47_code 24 = .ok (.iconst 1, 1) := by decide +kernel
theorem dX14_isSaved_25 : decode prog_13_method_47_code 25 = .ok (.iadd, 1) := by decide +kernel
theorem dX14_isSaved_26 : decode prog_13_method_47_code 26 = .ok (.putfield 335, 3) := by decide +kernel
theorem dX14_isSaved_29 : decode prog_13_method_47_code 29 = .ok (.iconst 1, 1) := by decide +kernel
theorem dX14_isSaved_30 : decode prog_13_method_47_code 30 = .ok (.ireturn, 1) := by decide +kernel
theorem dX14_isCommitted_0 : decode prog_13_method_48_code 0 = .ok (.aload_n 0, 1) := by decide +kernel
theorem dX14_isCommitted_1 : decode prog_13_method_48_code 1 = .ok (.getfield 338, 3) := by decide +kernel
theorem dX14_isCommitted_4 : decode prog_13_method_48_code 4 = .ok (.sipush 224, 3) := by decide +kernel
theorem dX14_isCommitted_7 : decode prog_13_method_48_code 7 = .ok (.iadd, 1) := by decide +kernel
theorem dX14_isCommitted_8 : decode prog_13_method_48_code 8 = .ok (.iconst 1, 1) := by decide +kernel
theorem dX14_isCommitted_9 : decode prog_13_method_48_code 9 = .ok (.isub, 1) := by decide +kernel
theorem dX14_isCommitted_10 : decode prog_13_method_48_code 10 = .ok (.sipush 224, 3) := by decide +kernel
theorem dX14_isCommitted_13 : decode prog_13_method_48_code 13 = .ok (.idiv, 1) := by decide +kernel
theorem dX14_isCommitted_14 : decode prog_13_method_48_code 14 = .ok (.iconst 1, 1) := by decide +kernel
theorem dX14_isCommitted_15 : decode prog_13_method_48_code 15 = .ok (.iadd, 1) := by decide +kernel
theorem dX14_isCommitted_16 : decode prog_13_method_48_code 16 = .ok (.istore_n 1, 1) := by decide +kernel
theorem dX14_isCommitted_17 : decode prog_13_method_48_code 17 = .ok (.aload_n 0, 1) := by decide +kernel
theorem dX14_isCommitted_18 : decode prog_13_method_48_code 18 = .ok (.getfield 332, 3) := by decide +kernel
theorem dX14_isCommitted_21 : decode prog_13_method_48_code 21 = .ok (.iload_n 1, 1) := by decide +kernel
theorem dX14_isCommitted_22 : decode prog_13_method_48_code 22 = .ok (.iadd, 1) := by decide +kernel
theorem dX14_isCommitted_23 : decode prog_13_method_48_code 23 = .ok (.bipush 64, 2) := by decide +kernel
theorem dX14_isCommitted_25 : decode prog_13_method_48_code 25 = .ok (.if_icmp .le 12, 3) := by decide +kernel
theorem dX14_isCommitted_28 : decode prog_13_method_48_code 28 = .ok (.aload_n 0, 1) := by decide +kernel
theorem dX14_isCommitted_29 : decode prog_13_method_48_code 29 = .ok (.invokevirtual 341, 3) := by decide +kernel
theorem dX14_isCommitted_32 : decode prog_13_method_48_code 32 = .ok (.ifCond .ne 37, 3) := by decide +kernel
theorem dX14_isCommitted_35 : decode prog_13_method_48_code 35 = .ok (.iconst 0, 1) := by decide +kernel
theorem dX14_isCommitted_36 : decode prog_13_method_48_code 36 = .ok (.ireturn, 1) := by decide +kernel
theorem dX14_isCommitted_37 : decode prog_13_method_48_code 37 = .ok (.iconst 0, 1) := by decide +kernel
theorem dX14_isCommitted_38 : decode prog_13_method_48_code 38 = .ok (.istore_n 2, 1) := by decide +kernel
theorem dX14_isCommitted_39 : decode prog_13_method_48_code 39 = .ok (.iload_n 2, 1) := by decide +kernel
theorem dX14_isCommitted_40 : decode prog_13_method_48_code 40 = .ok (.iload_n 1, 1) := by decide +kernel
theorem dX14_isCommitted_41 : decode prog_13_method_48_code 41 = .ok (.if_icmp .ge 18, 3) := by decide +kernel
theorem dX14_isCommitted_44 : decode prog_13_method_48_code 44 = .ok (.aload_n 0, 1) := by decide +kernel
theorem dX14_isCommitted_45 : decode prog_13_method_48_code 45 = .ok (.invokevirtual 344, 3) := by decide +kernel
theorem dX14_isCommitted_48 : decode prog_13_method_48_code 48 = .ok (.ifCond .ne 5, 3) := by decide +kernel
theorem dX14_isCommitted_51 : decode prog_13_method_48_code 51 = .ok (.iconst 0, 1) := by decide +kernel
theorem dX14_isCommitted_52 : decode prog_13_method_48_code 52 = .ok (.ireturn, 1) := by decide +kernel
theorem dX14_isCommitted_53 : decode prog_13_method_48_code 53 = .ok (.iinc 2 1, 3) := by decide +kernel
theorem dX14_isCommitted_56 : decode prog_13_method_48_code 56 = .ok (.goto (-17), 3) := by decide +kernel
theorem dX14_isCommitted_59 : decode prog_13_method_48_code 59 = .ok (.aload_n 0, 1) := by decide +kernel
theorem dX14_isCommitted_60 : decode prog_13_method_48_code 60 = .ok (.dup, 1) := by decide +kernel
theorem dX14_isCommitted_61 : decode prog_13_method_48_code 61 = .ok (.getfield 332, 3) := by decide +kernel
theorem dX14_isCommitted_64 : decode prog_13_method_48_code 64 = .ok (.iload_n 1, 1) := by decide +kernel
theorem dX14_isCommitted_65 : decode prog_13_method_48_code 65 = .ok (.iadd, 1) := by decide +kernel
theorem dX14_isCommitted_66 : decode prog_13_method_48_code 66 = .ok (.putfield 332, 3) := by decide +kernel
theorem dX14_isCommitted_69 : decode prog_13_method_48_code 69 = .ok (.aload_n 0, 1) := by decide +kernel
theorem dX14_isCommitted_70 : decode prog_13_method_48_code 70 = .ok (.getfield 347, 3) := by decide +kernel
theorem dX14_isCommitted_73 : decode prog_13_method_48_code 73 = .ok (.aload_n 0, 1) := by decide +kernel
theorem dX14_isCommitted_74 : decode prog_13_method_48_code 74 = .ok (.getfield 351, 3) := by decide +kernel
theorem dX14_isCommitted_77 : decode prog_13_method_48_code 77 = .ok (.invokevirtual 354, 3) := by decide +kernel
theorem dX14_isCommitted_80 : decode prog_13_method_48_code 80 = .ok (.aload_n 0, 1) := by decide +kernel
theorem dX14_isCommitted_81 : decode prog_13_method_48_code 81 = .ok (.iconst 0, 1) := by decide +kernel
theorem dX14_isCommitted_82 : decode prog_13_method_48_code 82 = .ok (.putfield 321, 3) := by decide +kernel
theorem dX14_isCommitted_85 : decode prog_13_method_48_code 85 = .ok (.aload_n 0, 1) := by decide +kernel
theorem dX14_isCommitted_86 : decode prog_13_method_48_code 86 = .ok (.iconst 0, 1) := by decide +kernel
theorem dX14_isCommitted_87 : decode prog_13_method_48_code 87 = .ok (.putfield 338, 3) := by decide +kernel
theorem dX14_isCommitted_90 : decode prog_13_method_48_code 90 = .ok (.iconst 1, 1) := by decide +kernel
theorem dX14_isCommitted_91 : decode prog_13_method_48_code 91 = .ok (.ireturn, 1) := by decide +kernel
theorem dX14_hasRoom_0 : decode prog_13_method_49_code 0 = .ok (.aload_n 0, 1) := by decide +kernel
theorem dX14_hasRoom_1 : decode prog_13_method_49_code 1 = .ok (.getfield 338, 3) := by decide +kernel
theorem dX14_hasRoom_4 : decode prog_13_method_49_code 4 = .ok (.iload_n 1, 1) := by decide +kernel
theorem dX14_hasRoom_5 : decode prog_13_method_49_code 5 = .ok (.iadd, 1) := by decide +kernel
theorem dX14_hasRoom_6 : decode prog_13_method_49_code 6 = .ok (.sipush 14112, 3) := by decide +kernel
theorem dX14_hasRoom_9 : decode prog_13_method_49_code 9 = .ok (.if_icmp .gt 7, 3) := by decide +kernel
theorem dX14_hasRoom_12 : decode prog_13_method_49_code 12 = .ok (.iconst 1, 1) := by decide +kernel
theorem dX14_hasRoom_13 : decode prog_13_method_49_code 13 = .ok (.goto 4, 3) := by decide +kernel
theorem dX14_hasRoom_16 : decode prog_13_method_49_code 16 = .ok (.iconst 0, 1) := by decide +kernel
theorem dX14_hasRoom_17 : decode prog_13_method_49_code 17 = .ok (.ireturn, 1) := by decide +kernel
theorem dX14_put_0 : decode prog_13_method_50_code 0 = .ok (.aload_n 0, 1) := by decide +kernel
theorem dX14_put_1 : decode prog_13_method_50_code 1 = .ok (.getfield 359, 3) := by decide +kernel
theorem dX14_put_4 : decode prog_13_method_50_code 4 = .ok (.aload_n 0, 1) := by decide +kernel
theorem dX14_put_5 : decode prog_13_method_50_code 5 = .ok (.getfield 362, 3) := by decide +kernel
theorem dX14_put_8 : decode prog_13_method_50_code 8 = .ok (.iload_n 1, 1) := by decide +kernel
theorem dX14_put_9 : decode prog_13_method_50_code 9 = .ok (.iastore, 1) := by decide +kernel
theorem dX14_put_10 : decode prog_13_method_50_code 10 = .ok (.aload_n 0, 1) := by decide +kernel
theorem dX14_put_11 : decode prog_13_method_50_code 11 = .ok (.dup, 1) := by decide +kernel
theorem dX14_put_12 : decode prog_13_method_50_code 12 = .ok (.getfield 362, 3) := by decide +kernel
theorem dX14_put_15 : decode prog_13_method_50_code 15 = .ok (.iconst 1, 1) := by decide +kernel
theorem dX14_put_16 : decode prog_13_method_50_code 16 = .ok (.iadd, 1) := by decide +kernel
theorem dX14_put_17 : decode prog_13_method_50_code 17 = .ok (.putfield 362, 3) := by decide +kernel
theorem dX14_put_20 : decode prog_13_method_50_code 20 = .ok (.return_, 1) := by decide +kernel
theorem dX14_refuse_0 : decode prog_13_method_51_code 0 = .ok (.aload_n 0, 1) := by decide +kernel
theorem dX14_refuse_1 : decode prog_13_method_51_code 1 = .ok (.getfield 365, 3) := by decide +kernel
theorem dX14_refuse_4 : decode prog_13_method_51_code 4 = .ok (.ifCond .ne 16, 3) := by decide +kernel
theorem dX14_refuse_7 : decode prog_13_method_51_code 7 = .ok (.aload_n 0, 1) := by decide +kernel
theorem dX14_refuse_8 : decode prog_13_method_51_code 8 = .ok (.iconst 1, 1) := by decide +kernel
theorem dX14_refuse_9 : decode prog_13_method_51_code 9 = .ok (.putfield 365, 3) := by decide +kernel
theorem dX14_refuse_12 : decode prog_13_method_51_code 12 = .ok (.aload_n 0, 1) := by decide +kernel
theorem dX14_refuse_13 : decode prog_13_method_51_code 13 = .ok (.aload_n 0, 1) := by decide +kernel
theorem dX14_refuse_14 : decode prog_13_method_51_code 14 = .ok (.getfield 368, 3) := by decide +kernel
theorem dX14_refuse_17 : decode prog_13_method_51_code 17 = .ok (.putfield 370, 3) := by decide +kernel
theorem dX14_refuse_20 : decode prog_13_method_51_code 20 = .ok (.return_, 1) := by decide +kernel
theorem dX14_byteAt_0 : decode prog_13_method_52_code 0 = .ok (.iload_n 1, 1) := by decide +kernel
theorem dX14_byteAt_1 : decode prog_13_method_52_code 1 = .ok (.aload_n 0, 1) := by decide +kernel
theorem dX14_byteAt_2 : decode prog_13_method_52_code 2 = .ok (.getfield 373, 3) := by decide +kernel
theorem dX14_byteAt_5 : decode prog_13_method_52_code 5 = .ok (.if_icmp .ge 12, 3) := by decide +kernel
theorem dX14_byteAt_8 : decode prog_13_method_52_code 8 = .ok (.aload_n 0, 1) := by decide +kernel
theorem dX14_byteAt_9 : decode prog_13_method_52_code 9 = .ok (.getfield 376, 3) := by decide +kernel
theorem dX14_byteAt_12 : decode prog_13_method_52_code 12 = .ok (.iload_n 1, 1) := by decide +kernel
theorem dX14_byteAt_13 : decode prog_13_method_52_code 13 = .ok (.iaload, 1) := by decide +kernel
theorem dX14_byteAt_14 : decode prog_13_method_52_code 14 = .ok (.goto 4, 3) := by decide +kernel
theorem dX14_byteAt_17 : decode prog_13_method_52_code 17 = .ok (.iconst (-1), 1) := by decide +kernel
theorem dX14_byteAt_18 : decode prog_13_method_52_code 18 = .ok (.ireturn, 1) := by decide +kernel
theorem dX14_isGreat_0 : decode prog_13_method_53_code 0 = .ok (.iload_n 0, 1) := by decide +kernel
theorem dX14_isGreat_1 : decode prog_13_method_53_code 1 = .ok (.bipush 65, 2) := by decide +kernel
theorem dX14_isGreat_3 : decode prog_13_method_53_code 3 = .ok (.if_icmp .lt 13, 3) := by decide +kernel
theorem dX14_isGreat_6 : decode prog_13_method_53_code 6 = .ok (.iload_n 0, 1) := by decide +kernel
theorem dX14_isGreat_7 : decode prog_13_method_53_code 7 = .ok (.bipush 90, 2) := by decide +kernel
theorem dX14_isGreat_9 : decode prog_13_method_53_code 9 = .ok (.if_icmp .gt 7, 3) := by decide +kernel
theorem dX14_isGreat_12 : decode prog_13_method_53_code 12 = .ok (.iconst 1, 1) := by decide +kernel
theorem dX14_isGreat_13 : decode prog_13_method_53_code 13 = .ok (.goto 4, 3) := by decide +kernel
theorem dX14_isGreat_16 : decode prog_13_method_53_code 16 = .ok (.iconst 0, 1) := by decide +kernel
theorem dX14_isGreat_17 : decode prog_13_method_53_code 17 = .ok (.ireturn, 1) := by decide +kernel
theorem dX14_isDigit_0 : decode prog_13_method_54_code 0 = .ok (.iload_n 0, 1) := by decide +kernel
theorem dX14_isDigit_1 : decode prog_13_method_54_code 1 = .ok (.bipush 48, 2) := by decide +kernel
theorem dX14_isDigit_3 : decode prog_13_method_54_code 3 = .ok (.if_icmp .lt 13, 3) := by decide +kernel
theorem dX14_isDigit_6 : decode prog_13_method_54_code 6 = .ok (.iload_n 0, 1) := by decide +kernel
theorem dX14_isDigit_7 : decode prog_13_method_54_code 7 = .ok (.bipush 57, 2) := by decide +kernel
theorem dX14_isDigit_9 : decode prog_13_method_54_code 9 = .ok (.if_icmp .gt 7, 3) := by decide +kernel
theorem dX14_isDigit_12 : decode prog_13_method_54_code 12 = .ok (.iconst 1, 1) := by decide +kernel
theorem dX14_isDigit_13 : decode prog_13_method_54_code 13 = .ok (.goto 4, 3) := by decide +kernel
theorem dX14_isDigit_16 : decode prog_13_method_54_code 16 = .ok (.iconst 0, 1) := by decide +kernel
theorem dX14_isDigit_17 : decode prog_13_method_54_code 17 = .ok (.ireturn, 1) := by decide +kernel
theorem dX14_next_0 : decode prog_13_method_55_code 0 = .ok (.aload_n 0, 1) := by decide +kernel
theorem dX14_next_1 : decode prog_13_method_55_code 1 = .ok (.aload_n 0, 1) := by decide +kernel
theorem dX14_next_2 : decode prog_13_method_55_code 2 = .ok (.getfield 379, 3) := by decide +kernel
theorem dX14_next_5 : decode prog_13_method_55_code 5 = .ok (.invokevirtual 382, 3) := by decide +kernel
theorem dX14_next_8 : decode prog_13_method_55_code 8 = .ok (.bipush 32, 2) := by decide +kernel
theorem dX14_next_10 : decode prog_13_method_55_code 10 = .ok (.if_icmp .eq 16, 3) := by decide +kernel
theorem dX14_next_13 : decode prog_13_method_55_code 13 = .ok (.aload_n 0, 1) := by decide +kernel
theorem dX14_next_14 : decode prog_13_method_55_code 14 = .ok (.aload_n 0, 1) := by decide +kernel
theorem dX14_next_15 : decode prog_13_method_55_code 15 = .ok (.getfield 379, 3) := by decide +kernel
theorem dX14_next_18 : decode prog_13_method_55_code 18 = .ok (.invokevirtual 382, 3) := by decide +kernel
theorem dX14_next_21 : decode prog_13_method_55_code 21 = .ok (.bipush 10, 2) := by decide +kernel
theorem dX14_next_23 : decode prog_13_method_55_code 23 = .ok (.if_icmp .ne 16, 3) := by decide +kernel
theorem dX14_next_26 : decode prog_13_method_55_code 26 = .ok (.aload_n 0, 1) := by decide +kernel
theorem dX14_next_27 : decode prog_13_method_55_code 27 = .ok (.dup, 1) := by decide +kernel
theorem dX14_next_28 : decode prog_13_method_55_code 28 = .ok (.getfield 379, 3) := by decide +kernel
theorem dX14_next_31 : decode prog_13_method_55_code 31 = .ok (.iconst 1, 1) := by decide +kernel
theorem dX14_next_32 : decode prog_13_method_55_code 32 = .ok (.iadd, 1) := by decide +kernel
theorem dX14_next_33 : decode prog_13_method_55_code 33 = .ok (.putfield 379, 3) := by decide +kernel
theorem dX14_next_36 : decode prog_13_method_55_code 36 = .ok (.goto (-36), 3) := by decide +kernel
theorem dX14_next_39 : decode prog_13_method_55_code 39 = .ok (.aload_n 0, 1) := by decide +kernel
theorem dX14_next_40 : decode prog_13_method_55_code 40 = .ok (.aload_n 0, 1) := by decide +kernel
theorem dX14_next_41 : decode prog_13_method_55_code 41 = .ok (.getfield 379, 3) := by decide +kernel
theorem dX14_next_44 : decode prog_13_method_55_code 44 = .ok (.putfield 368, 3) := by decide +kernel
theorem dX14_next_47 : decode prog_13_method_55_code 47 = .ok (.aload_n 0, 1) := by decide +kernel
theorem dX14_next_48 : decode prog_13_method_55_code 48 = .ok (.aload_n 0, 1) := by decide +kernel
theorem dX14_next_49 : decode prog_13_method_55_code 49 = .ok (.getfield 379, 3) := by decide +kernel
theorem dX14_next_52 : decode prog_13_method_55_code 52 = .ok (.invokevirtual 382, 3) := by decide +kernel
theorem dX14_next_55 : decode prog_13_method_55_code 55 = .ok (.istore_n 1, 1) := by decide +kernel
theorem dX14_next_56 : decode prog_13_method_55_code 56 = .ok (.iload_n 1, 1) := by decide +kernel
theorem dX14_next_57 : decode prog_13_method_55_code 57 = .ok (.ifCond .ge 11, 3) := by decide +kernel
theorem dX14_next_60 : decode prog_13_method_55_code 60 = .ok (.aload_n 0, 1) := by decide +kernel
theorem dX14_next_61 : decode prog_13_method_55_code 61 = .ok (.iconst 0, 1) := by decide +kernel
theorem dX14_next_62 : decode prog_13_method_55_code 62 = .ok (.putfield 385, 3) := by decide +kernel
theorem dX14_next_65 : decode prog_13_method_55_code 65 = .ok (.goto 132, 3) := by decide +kernel
theorem dX14_next_68 : decode prog_13_method_55_code 68 = .ok (.iload_n 1, 1) := by decide +kernel
theorem dX14_next_69 : decode prog_13_method_55_code 69 = .ok (.invokestatic 388, 3) := by decide +kernel
theorem dX14_next_72 : decode prog_13_method_55_code 72 = .ok (.ifCond .eq 35, 3) := by decide +kernel
theorem dX14_next_75 : decode prog_13_method_55_code 75 = .ok (.aload_n 0, 1) := by decide +kernel
theorem dX14_next_76 : decode prog_13_method_55_code 76 = .ok (.iconst 1, 1) := by decide +kernel
theorem dX14_next_77 : decode prog_13_method_55_code 77 = .ok (.putfield 385, 3) := by decide +kernel
theorem dX14_next_80 : decode prog_13_method_55_code 80 = .ok (.aload_n 0, 1) := by decide +kernel
theorem dX14_next_81 : decode prog_13_method_55_code 81 = .ok (.aload_n 0, 1) := by decide +kernel
theorem dX14_next_82 : decode prog_13_method_55_code 82 = .ok (.getfield 379, 3) := by decide +kernel
theorem dX14_next_85 : decode prog_13_method_55_code 85 = .ok (.invokevirtual 382, 3) := by decide +kernel
theorem dX14_next_88 : decode prog_13_method_55_code 88 = .ok (.invokestatic 388, 3) := by decide +kernel
theorem dX14_next_91 : decode prog_13_method_55_code 91 = .ok (.ifCond .eq 106, 3) := by decide +kernel
theorem dX14_next_94 : decode prog_13_method_55_code 94 = .ok (.aload_n 0, 1) := by decide +kernel
theorem dX14_next_95 : decode prog_13_method_55_code 95 = .ok (.dup, 1) := by decide +kernel
theorem dX14_next_96 : decode prog_13_method_55_code 96 = .ok (.getfield 379, 3) := by decide +kernel
theorem dX14_next_99 : decode prog_13_method_55_code 99 = .ok (.iconst 1, 1) := by decide +kernel
theorem dX14_next_100 : decode prog_13_method_55_code 100 = .ok (.iadd, 1) := by decide +kernel
theorem dX14_next_101 : decode prog_13_method_55_code 101 = .ok (.putfield 379, 3) := by decide +kernel
theorem dX14_next_104 : decode prog_13_method_55_code 104 = .ok (.goto (-24), 3) := by decide +kernel
theorem dX14_next_107 : decode prog_13_method_55_code 107 = .ok (.iload_n 1, 1) := by decide +kernel
theorem dX14_next_108 : decode prog_13_method_55_code 108 = .ok (.invokestatic 391, 3) := by decide +kernel
theorem dX14_next_111 : decode prog_13_method_55_code 111 = .ok (.ifCond .ne 25, 3) := by decide +kernel
theorem dX14_next_114 : decode prog_13_method_55_code 114 = .ok (.iload_n 1, 1) := by decide +kernel
theorem dX14_next_115 : decode prog_13_method_55_code 115 = .ok (.bipush 45, 2) := by decide +kernel
theorem dX14_next_117 : decode prog_13_method_55_code 117 = .ok (.if_icmp .ne 37, 3) := by decide +kernel
theorem dX14_next_120 : decode prog_13_method_55_code 120 = .ok (.aload_n 0, 1) := by decide +kernel
theorem dX14_next_121 : decode prog_13_method_55_code 121 = .ok (.aload_n 0, 1) := by decide +kernel
theorem dX14_next_122 : decode prog_13_method_55_code 122 = .ok (.getfield 379, 3) := by decide +kernel
theorem dX14_next_125 : decode prog_13_method_55_code 125 = .ok (.iconst 1, 1) := by decide +kernel
theorem dX14_next_126 : decode prog_13_method_55_code 126 = .ok (.iadd, 1) := by decide +kernel
theorem dX14_next_127 : decode prog_13_method_55_code 127 = .ok (.invokevirtual 382, 3) := by decide +kernel
theorem dX14_next_130 : decode prog_13_method_55_code 130 = .ok (.invokestatic 391, 3) := by decide +kernel
theorem dX14_next_133 : decode prog_13_method_55_code 133 = .ok (.ifCond .eq 21, 3) := by decide +kernel
theorem dX14_next_136 : decode prog_13_method_55_code 136 = .ok (.aload_n 0, 1) := by decide +kernel
theorem dX14_next_137 : decode prog_13_method_55_code 137 = .ok (.iload_n 1, 1) := by decide +kernel
theorem dX14_next_138 : decode prog_13_method_55_code 138 = .ok (.bipush 45, 2) := by decide +kernel
theorem dX14_next_140 : decode prog_13_method_55_code 140 = .ok (.if_icmp .ne 7, 3) := by decide +kernel
theorem dX14_next_143 : decode prog_13_method_55_code 143 = .ok (.iconst 1, 1) := by decide +kernel
theorem dX14_next_144 : decode prog_13_method_55_code 144 = .ok (.goto 4, 3) := by decide +kernel
theorem dX14_next_147 : decode prog_13_method_55_code 147 = .ok (.iconst 0, 1) := by decide +kernel
theorem dX14_next_148 : decode prog_13_method_55_code 148 = .ok (.invokevirtual 394, 3) := by decide +kernel
theorem dX14_next_151 : decode prog_13_method_55_code 151 = .ok (.goto 46, 3) := by decide +kernel
theorem dX14_next_154 : decode prog_13_method_55_code 154 = .ok (.aload_n 0, 1) := by decide +kernel
theorem dX14_next_155 : decode prog_13_method_55_code 155 = .ok (.iload_n 1, 1) := by decide +kernel
theorem dX14_next_156 : decode prog_13_method_55_code 156 = .ok (.bipush 40, 2) := by decide +kernel
theorem dX14_next_158 : decode prog_13_method_55_code 158 = .ok (.if_icmp .eq 21, 3) := by decide +kernel
theorem dX14_next_161 : decode prog_13_method_55_code 161 = .ok (.iload_n 1, 1) := by decide +kernel
theorem dX14_next_162 : decode prog_13_method_55_code 162 = .ok (.bipush 41, 2) := by decide +kernel
theorem dX14_next_164 : decode prog_13_method_55_code 164 = .ok (.if_icmp .eq 15, 3) := by decide +kernel
theorem dX14_next_167 : decode prog_13_method_55_code 167 = .ok (.iload_n 1, 1) := by decide +kernel
theorem dX14_next_168 : decode prog_13_method_55_code 168 = .ok (.bipush 44, 2) := by decide +kernel
theorem dX14_next_170 : decode prog_13_method_55_code 170 = .ok (.if_icmp .eq 9, 3) := by decide +kernel
theorem dX14_next_173 : decode prog_13_method_55_code 173 = .ok (.iload_n 1, 1) := by decide +kernel
theorem dX14_next_174 : decode prog_13_method_55_code 174 = .ok (.bipush 59, 2) := by decide +kernel
theorem dX14_next_176 : decode prog_13_method_55_code 176 = .ok (.if_icmp .ne 7, 3) := by decide +kernel
theorem dX14_next_179 : decode prog_13_method_55_code 179 = .ok (.iconst 3, 1) := by decide +kernel
theorem dX14_next_180 : decode prog_13_method_55_code 180 = .ok (.goto 4, 3) := by decide +kernel
theorem dX14_next_183 : decode prog_13_method_55_code 183 = .ok (.iconst 4, 1) := by decide +kernel
theorem dX14_next_184 : decode prog_13_method_55_code 184 = .ok (.putfield 385, 3) := by decide +kernel
theorem dX14_next_187 : decode prog_13_method_55_code 187 = .ok (.aload_n 0, 1) := by decide +kernel
theorem dX14_next_188 : decode prog_13_method_55_code 188 = .ok (.dup, 1) := by decide +kernel
theorem dX14_next_189 : decode prog_13_method_55_code 189 = .ok (.getfield 379, 3) := by decide +kernel
theorem dX14_next_192 : decode prog_13_method_55_code 192 = .ok (.iconst 1, 1) := by decide +kernel
theorem dX14_next_193 : decode prog_13_method_55_code 193 = .ok (.iadd, 1) := by decide +kernel
theorem dX14_next_194 : decode prog_13_method_55_code 194 = .ok (.putfield 379, 3) := by decide +kernel
theorem dX14_next_197 : decode prog_13_method_55_code 197 = .ok (.return_, 1) := by decide +kernel
theorem dX14_readNumber_0 : decode prog_13_method_56_code 0 = .ok (.aload_n 0, 1) := by decide +kernel
theorem dX14_readNumber_1 : decode prog_13_method_56_code 1 = .ok (.dup, 1) := by decide +kernel
theorem dX14_readNumber_2 : decode prog_13_method_56_code 2 = .ok (.getfield 379, 3) := by decide +kernel
theorem dX14_readNumber_5 : decode prog_13_method_56_code 5 = .ok (.iload_n 1, 1) := by decide +kernel
theorem dX14_readNumber_6 : decode prog_13_method_56_code 6 = .ok (.ifCond .eq 7, 3) := by decide +kernel
theorem dX14_readNumber_9 : decode prog_13_method_56_code 9 = .ok (.iconst 1, 1) := by decide +kernel
theorem dX14_readNumber_10 : decode prog_13_method_56_code 10 = .ok (.goto 4, 3) := by decide +kernel
theorem dX14_readNumber_13 : decode prog_13_method_56_code 13 = .ok (.iconst 0, 1) := by decide +kernel
theorem dX14_readNumber_14 : decode prog_13_method_56_code 14 = .ok (.iadd, 1) := by decide +kernel
theorem dX14_readNumber_15 : decode prog_13_method_56_code 15 = .ok (.putfield 379, 3) := by decide +kernel
theorem dX14_readNumber_18 : decode prog_13_method_56_code 18 = .ok (.aload_n 0, 1) := by decide +kernel
theorem dX14_readNumber_19 : decode prog_13_method_56_code 19 = .ok (.getfield 379, 3) := by decide +kernel
theorem dX14_readNumber_22 : decode prog_13_method_56_code 22 = .ok (.istore_n 2, 1) := by decide +kernel
theorem dX14_readNumber_23 : decode prog_13_method_56_code 23 = .ok (.lconst 0, 1) := by decide +kernel
theorem dX14_readNumber_24 : decode prog_13_method_56_code 24 = .ok (.lstore_n 3, 1) := by decide +kernel
theorem dX14_readNumber_25 : decode prog_13_method_56_code 25 = .ok (.aload_n 0, 1) := by decide +kernel
theorem dX14_readNumber_26 : decode prog_13_method_56_code 26 = .ok (.aload_n 0, 1) := by decide +kernel
theorem dX14_readNumber_27 : decode prog_13_method_56_code 27 = .ok (.getfield 379, 3) := by decide +kernel
theorem dX14_readNumber_30 : decode prog_13_method_56_code 30 = .ok (.invokevirtual 382, 3) := by decide +kernel
theorem dX14_readNumber_33 : decode prog_13_method_56_code 33 = .ok (.invokestatic 391, 3) := by decide +kernel
theorem dX14_readNumber_36 : decode prog_13_method_56_code 36 = .ok (.ifCond .eq 48, 3) := by decide +kernel
theorem dX14_readNumber_39 : decode prog_13_method_56_code 39 = .ok (.lload_n 3, 1) := by decide +kernel
theorem dX14_readNumber_40 : decode prog_13_method_56_code 40 = .ok (.ldc2_w 398, 3) := by decide +kernel
theorem dX14_readNumber_43 : decode prog_13_method_56_code 43 = .ok (.lcmp, 1) := by decide +kernel
theorem dX14_readNumber_44 : decode prog_13_method_56_code 44 = .ok (.ifCond .le 7, 3) := by decide +kernel
theorem dX14_readNumber_47 : decode prog_13_method_56_code 47 = .ok (.lload_n 3, 1) := by decide +kernel
theorem dX14_readNumber_48 : decode prog_13_method_56_code 48 = .ok (.goto 22, 3) := by decide +kernel
theorem dX14_readNumber_51 : decode prog_13_method_56_code 51 = .ok (.ldc2_w 400, 3) := by decide +kernel
theorem dX14_readNumber_54 : decode prog_13_method_56_code 54 = .ok (.lload_n 3, 1) := by decide +kernel
theorem dX14_readNumber_55 : decode prog_13_method_56_code 55 = .ok (.lmul, 1) := by decide +kernel
theorem dX14_readNumber_56 : decode prog_13_method_56_code 56 = .ok (.aload_n 0, 1) := by decide +kernel
theorem dX14_readNumber_57 : decode prog_13_method_56_code 57 = .ok (.aload_n 0, 1) := by decide +kernel
theorem dX14_readNumber_58 : decode prog_13_method_56_code 58 = .ok (.getfield 379, 3) := by decide +kernel
theorem dX14_readNumber_61 : decode prog_13_method_56_code 61 = .ok (.invokevirtual 382, 3) := by decide +kernel
theorem dX14_readNumber_64 : decode prog_13_method_56_code 64 = .ok (.i2l, 1) := by decide +kernel
theorem dX14_readNumber_65 : decode prog_13_method_56_code 65 = .ok (.ladd, 1) := by decide +kernel
theorem dX14_readNumber_66 : decode prog_13_method_56_code 66 = .ok (.ldc2_w 402, 3) := by decide +kernel
theorem dX14_readNumber_69 : decode prog_13_method_56_code 69 = .ok (.lsub, 1) := by decide +kernel
theorem dX14_readNumber_70 : decode prog_13_method_56_code 70 = .ok (.lstore_n 3, 1) := by decide +kernel
theorem dX14_readNumber_71 : decode prog_13_method_56_code 71 = .ok (.aload_n 0, 1) := by decide +kernel
theorem dX14_readNumber_72 : decode prog_13_method_56_code 72 = .ok (.dup, 1) := by decide +kernel
theorem dX14_readNumber_73 : decode prog_13_method_56_code 73 = .ok (.getfield 379, 3) := by decide +kernel
theorem dX14_readNumber_76 : decode prog_13_method_56_code 76 = .ok (.iconst 1, 1) := by decide +kernel
theorem dX14_readNumber_77 : decode prog_13_method_56_code 77 = .ok (.iadd, 1) := by decide +kernel
theorem dX14_readNumber_78 : decode prog_13_method_56_code 78 = .ok (.putfield 379, 3) := by decide +kernel
theorem dX14_readNumber_81 : decode prog_13_method_56_code 81 = .ok (.goto (-56), 3) := by decide +kernel
theorem dX14_readNumber_84 : decode prog_13_method_56_code 84 = .ok (.aload_n 0, 1) := by decide +kernel
theorem dX14_readNumber_85 : decode prog_13_method_56_code 85 = .ok (.aload_n 0, 1) := by decide +kernel
theorem dX14_readNumber_86 : decode prog_13_method_56_code 86 = .ok (.getfield 379, 3) := by decide +kernel
theorem dX14_readNumber_89 : decode prog_13_method_56_code 89 = .ok (.iload_n 2, 1) := by decide +kernel
theorem dX14_readNumber_90 : decode prog_13_method_56_code 90 = .ok (.isub, 1) := by decide +kernel
theorem dX14_readNumber_91 : decode prog_13_method_56_code 91 = .ok (.bipush 10, 2) := by decide +kernel
theorem dX14_readNumber_93 : decode prog_13_method_56_code 93 = .ok (.if_icmp .gt 11, 3) := by decide +kernel
theorem dX14_readNumber_96 : decode prog_13_method_56_code 96 = .ok (.lload_n 3, 1) := by decide +kernel
theorem dX14_readNumber_97 : decode prog_13_method_56_code 97 = .ok (.ldc2_w 398, 3) := by decide +kernel
theorem dX14_readNumber_100 : decode prog_13_method_56_code 100 = .ok (.lcmp, 1) := by decide +kernel
theorem dX14_readNumber_101 : decode prog_13_method_56_code 101 = .ok (.ifCond .le 7, 3) := by decide +kernel
theorem dX14_readNumber_104 : decode prog_13_method_56_code 104 = .ok (.iconst 4, 1) := by decide +kernel
theorem dX14_readNumber_105 : decode prog_13_method_56_code 105 = .ok (.goto 4, 3) := by decide +kernel
theorem dX14_readNumber_108 : decode prog_13_method_56_code 108 = .ok (.iconst 2, 1) := by decide +kernel
theorem dX14_readNumber_109 : decode prog_13_method_56_code 109 = .ok (.putfield 385, 3) := by decide +kernel
theorem dX14_readNumber_112 : decode prog_13_method_56_code 112 = .ok (.aload_n 0, 1) := by decide +kernel
theorem dX14_readNumber_113 : decode prog_13_method_56_code 113 = .ok (.iload_n 1, 1) := by decide +kernel
theorem dX14_readNumber_114 : decode prog_13_method_56_code 114 = .ok (.ifCond .eq 9, 3) := by decide +kernel
theorem dX14_readNumber_117 : decode prog_13_method_56_code 117 = .ok (.lload_n 3, 1) := by decide +kernel
theorem dX14_readNumber_118 : decode prog_13_method_56_code 118 = .ok (.lneg, 1) := by decide +kernel
theorem dX14_readNumber_119 : decode prog_13_method_56_code 119 = .ok (.l2i, 1) := by decide +kernel
theorem dX14_readNumber_120 : decode prog_13_method_56_code 120 = .ok (.goto 5, 3) := by decide +kernel
theorem dX14_readNumber_123 : decode prog_13_method_56_code 123 = .ok (.lload_n 3, 1) := by decide +kernel
theorem dX14_readNumber_124 : decode prog_13_method_56_code 124 = .ok (.l2i, 1) := by decide +kernel
theorem dX14_readNumber_125 : decode prog_13_method_56_code 125 = .ok (.putfield 404, 3) := by decide +kernel
theorem dX14_readNumber_128 : decode prog_13_method_56_code 128 = .ok (.return_, 1) := by decide +kernel
theorem dX14_isWord_0 : decode prog_13_method_57_code 0 = .ok (.aload_n 0, 1) := by decide +kernel
theorem dX14_isWord_1 : decode prog_13_method_57_code 1 = .ok (.getfield 385, 3) := by decide +kernel
theorem dX14_isWord_4 : decode prog_13_method_57_code 4 = .ok (.iconst 1, 1) := by decide +kernel
theorem dX14_isWord_5 : decode prog_13_method_57_code 5 = .ok (.if_icmp .ne 19, 3) := by decide +kernel
theorem dX14_isWord_8 : decode prog_13_method_57_code 8 = .ok (.aload_n 0, 1) := by decide +kernel
theorem dX14_isWord_9 : decode prog_13_method_57_code 9 = .ok (.getfield 379, 3) := by decide +kernel
theorem dX14_isWord_12 : decode prog_13_method_57_code 12 = .ok (.aload_n 0, 1) := by decide +kernel
theorem dX14_isWord_13 : decode prog_13_method_57_code 13 = .ok (.getfield 368, 3) := by decide +kernel
theorem dX14_isWord_16 : decode prog_13_method_57_code 16 = .ok (.isub, 1) := by decide +kernel
theorem dX14_isWord_17 : decode prog_13_method_57_code 17 = .ok (.aload_n 1, 1) := by decide +kernel
theorem dX14_isWord_18 : decode prog_13_method_57_code 18 = .ok (.invokevirtual 407, 3) := by decide +kernel
theorem dX14_isWord_21 : decode prog_13_method_57_code 21 = .ok (.if_icmp .eq 5, 3) := by decide +kernel
theorem dX14_isWord_24 : decode prog_13_method_57_code 24 = .ok (.iconst 0, 1) := by decide +kernel
theorem dX14_isWord_25 : decode prog_13_method_57_code 25 = .ok (.ireturn, 1) := by decide +kernel
theorem dX14_isWord_26 : decode prog_13_method_57_code 26 = .ok (.iconst 0, 1) := by decide +kernel
theorem dX14_isWord_27 : decode prog_13_method_57_code 27 = .ok (.istore_n 2, 1) := by decide +kernel
theorem dX14_isWord_28 : decode prog_13_method_57_code 28 = .ok (.iload_n 2, 1) := by decide +kernel
theorem dX14_isWord_29 : decode prog_13_method_57_code 29 = .ok (.aload_n 1, 1) := by decide +kernel
theorem dX14_isWord_30 : decode prog_13_method_57_code 30 = .ok (.invokevirtual 407, 3) := by decide +kernel
theorem dX14_isWord_33 : decode prog_13_method_57_code 33 = .ok (.if_icmp .ge 30, 3) := by decide +kernel
theorem dX14_isWord_36 : decode prog_13_method_57_code 36 = .ok (.aload_n 0, 1) := by decide +kernel
theorem dX14_isWord_37 : decode prog_13_method_57_code 37 = .ok (.getfield 376, 3) := by decide +kernel
theorem dX14_isWord_40 : decode prog_13_method_57_code 40 = .ok (.aload_n 0, 1) := by decide +kernel
theorem dX14_isWord_41 : decode prog_13_method_57_code 41 = .ok (.getfield 368, 3) := by decide +kernel
theorem dX14_isWord_44 : decode prog_13_method_57_code 44 = .ok (.iload_n 2, 1) := by decide +kernel
theorem dX14_isWord_45 : decode prog_13_method_57_code 45 = .ok (.iadd, 1) := by decide +kernel
theorem dX14_isWord_46 : decode prog_13_method_57_code 46 = .ok (.iaload, 1) := by decide +kernel
theorem dX14_isWord_47 : decode prog_13_method_57_code 47 = .ok (.aload_n 1, 1) := by decide +kernel
theorem dX14_isWord_48 : decode prog_13_method_57_code 48 = .ok (.iload_n 2, 1) := by decide +kernel
theorem dX14_isWord_49 : decode prog_13_method_57_code 49 = .ok (.invokevirtual 413, 3) := by decide +kernel
theorem dX14_isWord_52 : decode prog_13_method_57_code 52 = .ok (.if_icmp .eq 5, 3) := by decide +kernel
theorem dX14_isWord_55 : decode prog_13_method_57_code 55 = .ok (.iconst 0, 1) := by decide +kernel
theorem dX14_isWord_56 : decode prog_13_method_57_code 56 = .ok (.ireturn, 1) := by decide +kernel
theorem dX14_isWord_57 : decode prog_13_method_57_code 57 = .ok (.iinc 2 1, 3) := by decide +kernel
theorem dX14_isWord_60 : decode prog_13_method_57_code 60 = .ok (.goto (-32), 3) := by decide +kernel
theorem dX14_isWord_63 : decode prog_13_method_57_code 63 = .ok (.iconst 1, 1) := by decide +kernel
theorem dX14_isWord_64 : decode prog_13_method_57_code 64 = .ok (.ireturn, 1) := by decide +kernel
theorem dX14_isSign_0 : decode prog_13_method_58_code 0 = .ok (.aload_n 0, 1) := by decide +kernel
theorem dX14_isSign_1 : decode prog_13_method_58_code 1 = .ok (.getfield 385, 3) := by decide +kernel
theorem dX14_isSign_4 : decode prog_13_method_58_code 4 = .ok (.iconst 3, 1) := by decide +kernel
theorem dX14_isSign_5 : decode prog_13_method_58_code 5 = .ok (.if_icmp .ne 20, 3) := by decide +kernel
theorem dX14_isSign_8 : decode prog_13_method_58_code 8 = .ok (.aload_n 0, 1) := by decide +kernel
theorem dX14_isSign_9 : decode prog_13_method_58_code 9 = .ok (.getfield 376, 3) := by decide +kernel
theorem dX14_isSign_12 : decode prog_13_method_58_code 12 = .ok (.aload_n 0, 1) := by decide +kernel
theorem dX14_isSign_13 : decode prog_13_method_58_code 13 = .ok (.getfield 368, 3) := by decide +kernel
theorem dX14_isSign_16 : decode prog_13_method_58_code 16 = .ok (.iaload, 1) := by decide +kernel
theorem dX14_isSign_17 : decode prog_13_method_58_code 17 = .ok (.iload_n 1, 1) := by decide +kernel
theorem dX14_isSign_18 : decode prog_13_method_58_code 18 = .ok (.if_icmp .ne 7, 3) := by decide +kernel
theorem dX14_isSign_21 : decode prog_13_method_58_code 21 = .ok (.iconst 1, 1) := by decide +kernel
theorem dX14_isSign_22 : decode prog_13_method_58_code 22 = .ok (.goto 4, 3) := by decide +kernel
theorem dX14_isSign_25 : decode prog_13_method_58_code 25 = .ok (.iconst 0, 1) := by decide +kernel
theorem dX14_isSign_26 : decode prog_13_method_58_code 26 = .ok (.ireturn, 1) := by decide +kernel
theorem dX14_expect_0 : decode prog_13_method_59_code 0 = .ok (.aload_n 0, 1) := by decide +kernel
theorem dX14_expect_1 : decode prog_13_method_59_code 1 = .ok (.getfield 365, 3) := by decide +kernel
theorem dX14_expect_4 : decode prog_13_method_59_code 4 = .ok (.ifCond .eq 4, 3) := by decide +kernel
theorem dX14_expect_7 : decode prog_13_method_59_code 7 = .ok (.return_, 1) := by decide +kernel
theorem dX14_expect_8 : decode prog_13_method_59_code 8 = .ok (.aload_n 0, 1) := by decide +kernel
theorem dX14_expect_9 : decode prog_13_method_59_code 9 = .ok (.iload_n 1, 1) := by decide +kernel
theorem dX14_expect_10 : decode prog_13_method_59_code 10 = .ok (.invokevirtual 417, 3) := by decide +kernel
theorem dX14_expect_13 : decode prog_13_method_59_code 13 = .ok (.ifCond .ne 10, 3) := by decide +kernel
theorem dX14_expect_16 : decode prog_13_method_59_code 16 = .ok (.aload_n 0, 1) := by decide +kernel
theorem dX14_expect_17 : decode prog_13_method_59_code 17 = .ok (.invokevirtual 420, 3) := by decide +kernel
theorem dX14_expect_20 : decode prog_13_method_59_code 20 = .ok (.goto 7, 3) := by decide +kernel
theorem dX14_expect_23 : decode prog_13_method_59_code 23 = .ok (.aload_n 0, 1) := by decide +kernel
theorem dX14_expect_24 : decode prog_13_method_59_code 24 = .ok (.invokevirtual 423, 3) := by decide +kernel
theorem dX14_expect_27 : decode prog_13_method_59_code 27 = .ok (.return_, 1) := by decide +kernel
theorem dX14_readInt_0 : decode prog_13_method_60_code 0 = .ok (.aload_n 0, 1) := by decide +kernel
theorem dX14_readInt_1 : decode prog_13_method_60_code 1 = .ok (.getfield 365, 3) := by decide +kernel
theorem dX14_readInt_4 : decode prog_13_method_60_code 4 = .ok (.ifCond .eq 5, 3) := by decide +kernel
theorem dX14_readInt_7 : decode prog_13_method_60_code 7 = .ok (.iconst 0, 1) := by decide +kernel
theorem dX14_readInt_8 : decode prog_13_method_60_code 8 = .ok (.ireturn, 1) := by decide +kernel
theorem dX14_readInt_9 : decode prog_13_method_60_code 9 = .ok (.aload_n 0, 1) := by decide +kernel
theorem dX14_readInt_10 : decode prog_13_method_60_code 10 = .ok (.getfield 385, 3) := by decide +kernel
theorem dX14_readInt_13 : decode prog_13_method_60_code 13 = .ok (.iconst 2, 1) := by decide +kernel
theorem dX14_readInt_14 : decode prog_13_method_60_code 14 = .ok (.if_icmp .eq 9, 3) := by decide +kernel
theorem dX14_readInt_17 : decode prog_13_method_60_code 17 = .ok (.aload_n 0, 1) := by decide +kernel
theorem dX14_readInt_18 : decode prog_13_method_60_code 18 = .ok (.invokevirtual 420, 3) := by decide +kernel
theorem dX14_readInt_21 : decode prog_13_method_60_code 21 = .ok (.iconst 0, 1) := by decide +kernel
theorem dX14_readInt_22 : decode prog_13_method_60_code 22 = .ok (.ireturn, 1) := by decide +kernel
theorem dX14_readInt_23 : decode prog_13_method_60_code 23 = .ok (.aload_n 0, 1) := by decide +kernel
theorem dX14_readInt_24 : decode prog_13_method_60_code 24 = .ok (.getfield 404, 3) := by decide +kernel
theorem dX14_readInt_27 : decode prog_13_method_60_code 27 = .ok (.istore_n 1, 1) := by decide +kernel
theorem dX14_readInt_28 : decode prog_13_method_60_code 28 = .ok (.aload_n 0, 1) := by decide +kernel
theorem dX14_readInt_29 : decode prog_13_method_60_code 29 = .ok (.invokevirtual 423, 3) := by decide +kernel
theorem dX14_readInt_32 : decode prog_13_method_60_code 32 = .ok (.iload_n 1, 1) := by decide +kernel
theorem dX14_readInt_33 : decode prog_13_method_60_code 33 = .ok (.ireturn, 1) := by decide +kernel
theorem dX14_readPlace_0 : decode prog_13_method_61_code 0 = .ok (.aload_n 0, 1) := by decide +kernel
theorem dX14_readPlace_1 : decode prog_13_method_61_code 1 = .ok (.invokevirtual 426, 3) := by decide +kernel
theorem dX14_readPlace_4 : decode prog_13_method_61_code 4 = .ok (.istore_n 1, 1) := by decide +kernel
theorem dX14_readPlace_5 : decode prog_13_method_61_code 5 = .ok (.aload_n 0, 1) := by decide +kernel
theorem dX14_readPlace_6 : decode prog_13_method_61_code 6 = .ok (.invokevirtual 426, 3) := by decide +kernel
theorem dX14_readPlace_9 : decode prog_13_method_61_code 9 = .ok (.istore_n 2, 1) := by decide +kernel
theorem dX14_readPlace_10 : decode prog_13_method_61_code 10 = .ok (.aload_n 0, 1) := by decide +kernel
theorem dX14_readPlace_11 : decode prog_13_method_61_code 11 = .ok (.getfield 429, 3) := by decide +kernel
theorem dX14_readPlace_14 : decode prog_13_method_61_code 14 = .ok (.bipush 40, 2) := by decide +kernel
theorem dX14_readPlace_16 : decode prog_13_method_61_code 16 = .ok (.if_icmp .ge 12, 3) := by decide +kernel
theorem dX14_readPlace_19 : decode prog_13_method_61_code 19 = .ok (.aload_n 0, 1) := by decide +kernel
theorem dX14_readPlace_20 : decode prog_13_method_61_code 20 = .ok (.getfield 432, 3) := by decide +kernel
theorem dX14_readPlace_23 : decode prog_13_method_61_code 23 = .ok (.iload_n 1, 1) := by decide +kernel
theorem dX14_readPlace_24 : decode prog_13_method_61_code 24 = .ok (.iload_n 2, 1) := by decide +kernel
theorem dX14_readPlace_25 : decode prog_13_method_61_code 25 = .ok (.invokevirtual 242, 3) := by decide +kernel
theorem dX14_readPlace_28 : decode prog_13_method_61_code 28 = .ok (.aload_n 0, 1) := by decide +kernel
theorem dX14_readPlace_29 : decode prog_13_method_61_code 29 = .ok (.dup, 1) := by decide +kernel
theorem dX14_readPlace_30 : decode prog_13_method_61_code 30 = .ok (.getfield 429, 3) := by decide +kernel
theorem dX14_readPlace_33 : decode prog_13_method_61_code 33 = .ok (.iconst 1, 1) := by decide +kernel
theorem dX14_readPlace_34 : decode prog_13_method_61_code 34 = .ok (.iadd, 1) := by decide +kernel
theorem dX14_readPlace_35 : decode prog_13_method_61_code 35 = .ok (.putfield 429, 3) := by decide +kernel
theorem dX14_readPlace_38 : decode prog_13_method_61_code 38 = .ok (.return_, 1) := by decide +kernel
theorem dX14_readPlaceRow_0 : decode prog_13_method_62_code 0 = .ok (.aload_n 0, 1) := by decide +kernel
theorem dX14_readPlaceRow_1 : decode prog_13_method_62_code 1 = .ok (.bipush 40, 2) := by decide +kernel
theorem dX14_readPlaceRow_3 : decode prog_13_method_62_code 3 = .ok (.invokevirtual 435, 3) := by decide +kernel
theorem dX14_readPlaceRow_6 : decode prog_13_method_62_code 6 = .ok (.aload_n 0, 1) := by decide +kernel
theorem dX14_readPlaceRow_7 : decode prog_13_method_62_code 7 = .ok (.invokevirtual 438, 3) := by decide +kernel
theorem dX14_readPlaceRow_10 : decode prog_13_method_62_code 10 = .ok (.aload_n 0, 1) := by decide +kernel
theorem dX14_readPlaceRow_11 : decode prog_13_method_62_code 11 = .ok (.getfield 365, 3) := by decide +kernel
theorem dX14_readPlaceRow_14 : decode prog_13_method_62_code 14 = .ok (.ifCond .ne 23, 3) := by decide +kernel
theorem dX14_readPlaceRow_17 : decode prog_13_method_62_code 17 = .ok (.aload_n 0, 1) := by decide +kernel
theorem dX14_readPlaceRow_18 : decode prog_13_method_62_code 18 = .ok (.bipush 44, 2) := by decide +kernel
theorem dX14_readPlaceRow_20 : decode prog_13_method_62_code 20 = .ok (.invokevirtual 417, 3) := by decide +kernel
theorem dX14_readPlaceRow_23 : decode prog_13_method_62_code 23 = .ok (.ifCond .eq 14, 3) := by decide +kernel
theorem dX14_readPlaceRow_26 : decode prog_13_method_62_code 26 = .ok (.aload_n 0, 1) := by decide +kernel
theorem dX14_readPlaceRow_27 : decode prog_13_method_62_code 27 = .ok (.invokevirtual 423, 3) := by decide +kernel
theorem dX14_readPlaceRow_30 : decode prog_13_method_62_code 30 = .ok (.aload_n 0, 1) := by decide +kernel
theorem dX14_readPlaceRow_31 : decode prog_13_method_62_code 31 = .ok (.invokevirtual 438, 3) := by decide +kernel
theorem dX14_readPlaceRow_34 : decode prog_13_method_62_code 34 = .ok (.goto (-24), 3) := by decide +kernel
theorem dX14_readPlaceRow_37 : decode prog_13_method_62_code 37 = .ok (.aload_n 0, 1) := by decide +kernel
theorem dX14_readPlaceRow_38 : decode prog_13_method_62_code 38 = .ok (.bipush 41, 2) := by decide +kernel
theorem dX14_readPlaceRow_40 : decode prog_13_method_62_code 40 = .ok (.invokevirtual 435, 3) := by decide +kernel
theorem dX14_readPlaceRow_43 : decode prog_13_method_62_code 43 = .ok (.aload_n 0, 1) := by decide +kernel
theorem dX14_readPlaceRow_44 : decode prog_13_method_62_code 44 = .ok (.getfield 441, 3) := by decide +kernel
theorem dX14_readPlaceRow_47 : decode prog_13_method_62_code 47 = .ok (.bipush 8, 2) := by decide +kernel
theorem dX14_readPlaceRow_49 : decode prog_13_method_62_code 49 = .ok (.if_icmp .ge 10, 3) := by decide +kernel
theorem dX14_readPlaceRow_52 : decode prog_13_method_62_code 52 = .ok (.aload_n 0, 1) := by decide +kernel
theorem dX14_readPlaceRow_53 : decode prog_13_method_62_code 53 = .ok (.getfield 432, 3) := by decide +kernel
theorem dX14_readPlaceRow_56 : decode prog_13_method_62_code 56 = .ok (.invokevirtual 246, 3) := by decide +kernel
theorem dX14_readPlaceRow_59 : decode prog_13_method_62_code 59 = .ok (.aload_n 0, 1) := by decide +kernel
theorem dX14_readPlaceRow_60 : decode prog_13_method_62_code 60 = .ok (.dup, 1) := by decide +kernel
theorem dX14_readPlaceRow_61 : decode prog_13_method_62_code 61 = .ok (.getfield 441, 3) := by decide +kernel
theorem dX14_readPlaceRow_64 : decode prog_13_method_62_code 64 = .ok (.iconst 1, 1) := by decide +kernel
theorem dX14_readPlaceRow_65 : decode prog_13_method_62_code 65 = .ok (.iadd, 1) := by decide +kernel
theorem dX14_readPlaceRow_66 : decode prog_13_method_62_code 66 = .ok (.putfield 441, 3) := by decide +kernel
theorem dX14_readPlaceRow_69 : decode prog_13_method_62_code 69 = .ok (.return_, 1) := by decide +kernel
theorem dX14_readShape_0 : decode prog_13_method_63_code 0 = .ok (.aload_n 0, 1) := by decide +kernel
theorem dX14_readShape_1 : decode prog_13_method_63_code 1 = .ok (.getfield 365, 3) := by decide +kernel
theorem dX14_readShape_4 : decode prog_13_method_63_code 4 = .ok (.ifCond .eq 4, 3) := by decide +kernel
theorem dX14_readShape_7 : decode prog_13_method_63_code 7 = .ok (.return_, 1) := by decide +kernel
theorem dX14_readShape_8 : decode prog_13_method_63_code 8 = .ok (.aload_n 0, 1) := by decide +kernel
theorem dX14_readShape_9 : decode prog_13_method_63_code 9 = .ok (.iconst 0, 1) := by decide +kernel
theorem dX14_readShape_10 : decode prog_13_method_63_code 10 = .ok (.putfield 429, 3) := by decide +kernel
theorem dX14_readShape_13 : decode prog_13_method_63_code 13 = .ok (.aload_n 0, 1) := by decide +kernel
theorem dX14_readShape_14 : decode prog_13_method_63_code 14 = .ok (.iconst 0, 1) := by decide +kernel
theorem dX14_readShape_15 : decode prog_13_method_63_code 15 = .ok (.putfield 441, 3) := by decide +kernel
theorem dX14_readShape_18 : decode prog_13_method_63_code 18 = .ok (.aload_n 0, 1) := by decide +kernel
theorem dX14_readShape_19 : decode prog_13_method_63_code 19 = .ok (.ldc_w 444, 3) := by decide +kernel
theorem dX14_readShape_22 : decode prog_13_method_63_code 22 = .ok (.invokevirtual 446, 3) := by decide +kernel
theorem dX14_readShape_25 : decode prog_13_method_63_code 25 = .ok (.istore_n 1, 1) := by decide +kernel
theorem dX14_readShape_26 : decode prog_13_method_63_code 26 = .ok (.aload_n 0, 1) := by decide +kernel
theorem dX14_readShape_27 : decode prog_13_method_63_code 27 = .ok (.ldc_w 450, 3) := by decide +kernel
theorem dX14_readShape_30 : decode prog_13_method_63_code 30 = .ok (.invokevirtual 446, 3) := by decide +kernel
theorem dX14_readShape_33 : decode prog_13_method_63_code 33 = .ok (.istore_n 2, 1) := by decide +kernel
theorem dX14_readShape_34 : decode prog_13_method_63_code 34 = .ok (.iload_n 1, 1) := by decide +kernel
theorem dX14_readShape_35 : decode prog_13_method_63_code 35 = .ok (.ifCond .ne 22, 3) := by decide +kernel
theorem dX14_readShape_38 : decode prog_13_method_63_code 38 = .ok (.iload_n 2, 1) := by decide +kernel
theorem dX14_readShape_39 : decode prog_13_method_63_code 39 = .ok (.ifCond .ne 18, 3) := by decide +kernel
theorem dX14_readShape_42 : decode prog_13_method_63_code 42 = .ok (.aload_n 0, 1) := by decide +kernel
theorem dX14_readShape_43 : decode prog_13_method_63_code 43 = .ok (.ldc_w 452, 3) := by decide +kernel
theorem dX14_readShape_46 : decode prog_13_method_63_code 46 = .ok (.invokevirtual 446, 3) := by decide +kernel
theorem dX14_readShape_49 : decode prog_13_method_63_code 49 = .ok (.ifCond .ne 8, 3) := by decide +kernel
theorem dX14_readShape_52 : decode prog_13_method_63_code 52 = .ok (.aload_n 0, 1) := by decide +kernel
theorem dX14_readShape_53 : decode prog_13_method_63_code 53 = .ok (.invokevirtual 420, 3) := by decide +kernel
theorem dX14_readShape_56 : decode prog_13_method_63_code 56 = .ok (.return_, 1) := by decide +kernel
theorem dX14_readShape_57 : decode prog_13_method_63_code 57 = .ok (.aload_n 0, 1) := by decide +kernel
theorem dX14_readShape_58 : decode prog_13_method_63_code 58 = .ok (.getfield 432, 3) := by decide +kernel
theorem dX14_readShape_61 : decode prog_13_method_63_code 61 = .ok (.iload_n 1, 1) := by decide +kernel
theorem dX14_readShape_62 : decode prog_13_method_63_code 62 = .ok (.ifCond .eq 7, 3) := by decide +kernel
theorem dX14_readShape_65 : decode prog_13_method_63_code 65 = .ok (.iconst 0, 1) := by decide +kernel
theorem dX14_readShape_66 : decode prog_13_method_63_code 66 = .ok (.goto 12, 3) := by decide +kernel
theorem dX14_readShape_69 : decode prog_13_method_63_code 69 = .ok (.iload_n 2, 1) := by decide +kernel
theorem dX14_readShape_70 : decode prog_13_method_63_code 70 = .ok (.ifCond .eq 7, 3) := by decide +kernel
theorem dX14_readShape_73 : decode prog_13_method_63_code 73 = .ok (.iconst 1, 1) := by decide +kernel
theorem dX14_readShape_74 : decode prog_13_method_63_code 74 = .ok (.goto 4, 3) := by decide +kernel
theorem dX14_readShape_77 : decode prog_13_method_63_code 77 = .ok (.iconst 2, 1) := by decide +kernel
theorem dX14_readShape_78 : decode prog_13_method_63_code 78 = .ok (.invokevirtual 238, 3) := by decide +kernel
theorem dX14_readShape_81 : decode prog_13_method_63_code 81 = .ok (.aload_n 0, 1) := by decide +kernel
theorem dX14_readShape_82 : decode prog_13_method_63_code 82 = .ok (.invokevirtual 423, 3) := by decide +kernel
theorem dX14_readShape_85 : decode prog_13_method_63_code 85 = .ok (.iload_n 1, 1) := by decide +kernel
theorem dX14_readShape_86 : decode prog_13_method_63_code 86 = .ok (.ifCond .eq 34, 3) := by decide +kernel
theorem dX14_readShape_89 : decode prog_13_method_63_code 89 = .ok (.aload_n 0, 1) := by decide +kernel
theorem dX14_readShape_90 : decode prog_13_method_63_code 90 = .ok (.bipush 40, 2) := by decide +kernel
theorem dX14_readShape_92 : decode prog_13_method_63_code 92 = .ok (.invokevirtual 435, 3) := by decide +kernel
theorem dX14_readShape_95 : decode prog_13_method_63_code 95 = .ok (.aload_n 0, 1) := by decide +kernel
theorem dX14_readShape_96 : decode prog_13_method_63_code 96 = .ok (.invokevirtual 438, 3) := by decide +kernel
theorem dX14_readShape_99 : decode prog_13_method_63_code 99 = .ok (.aload_n 0, 1) := by decide +kernel
theorem dX14_readShape_100 : decode prog_13_method_63_code 100 = .ok (.bipush 41, 2) := by decide +kernel
theorem dX14_readShape_102 : decode prog_13_method_63_code 102 = .ok (.invokevirtual 435, 3) := by decide +kernel
theorem dX14_readShape_105 : decode prog_13_method_63_code 105 = .ok (.aload_n 0, 1) := by decide +kernel
theorem dX14_readShape_106 : decode prog_13_method_63_code 106 = .ok (.getfield 432, 3) := by decide +kernel
theorem dX14_readShape_109 : decode prog_13_method_63_code 109 = .ok (.invokevirtual 246, 3) := by decide +kernel
theorem dX14_readShape_112 : decode prog_13_method_63_code 112 = .ok (.aload_n 0, 1) := by decide +kernel
theorem dX14_readShape_113 : decode prog_13_method_63_code 113 = .ok (.iconst 1, 1) := by decide +kernel
theorem dX14_readShape_114 : decode prog_13_method_63_code 114 = .ok (.putfield 441, 3) := by decide +kernel
theorem dX14_readShape_117 : decode prog_13_method_63_code 117 = .ok (.goto 57, 3) := by decide +kernel
theorem dX14_readShape_120 : decode prog_13_method_63_code 120 = .ok (.iload_n 2, 1) := by decide +kernel
theorem dX14_readShape_121 : decode prog_13_method_63_code 121 = .ok (.ifCond .eq 10, 3) := by decide +kernel
theorem dX14_readShape_124 : decode prog_13_method_63_code 124 = .ok (.aload_n 0, 1) := by decide +kernel
theorem dX14_readShape_125 : decode prog_13_method_63_code 125 = .ok (.invokevirtual 454, 3) := by decide +kernel
theorem dX14_readShape_128 : decode prog_13_method_63_code 128 = .ok (.goto 46, 3) := by decide +kernel
theorem dX14_readShape_131 : decode prog_13_method_63_code 131 = .ok (.aload_n 0, 1) := by decide +kernel
theorem dX14_readShape_132 : decode prog_13_method_63_code 132 = .ok (.bipush 40, 2) := by decide +kernel
theorem dX14_readShape_134 : decode prog_13_method_63_code 134 = .ok (.invokevirtual 435, 3) := by decide +kernel
theorem dX14_readShape_137 : decode prog_13_method_63_code 137 = .ok (.aload_n 0, 1) := by decide +kernel
theorem dX14_readShape_138 : decode prog_13_method_63_code 138 = .ok (.invokevirtual 454, 3) := by decide +kernel
theorem dX14_readShape_141 : decode prog_13_method_63_code 141 = .ok (.aload_n 0, 1) := by decide +kernel
theorem dX14_readShape_142 : decode prog_13_method_63_code 142 = .ok (.getfield 365, 3) := by decide +kernel
theorem dX14_readShape_145 : decode prog_13_method_63_code 145 = .ok (.ifCond .ne 23, 3) := by decide +kernel
theorem dX14_readShape_148 : decode prog_13_method_63_code 148 = .ok (.aload_n 0, 1) := by decide +kernel
theorem dX14_readShape_149 : decode prog_13_method_63_code 149 = .ok (.bipush 44, 2) := by decide +kernel
theorem dX14_readShape_151 : decode prog_13_method_63_code 151 = .ok (.invokevirtual 417, 3) := by decide +kernel
theorem dX14_readShape_154 : decode prog_13_method_63_code 154 = .ok (.ifCond .eq 14, 3) := by decide +kernel
theorem dX14_readShape_157 : decode prog_13_method_63_code 157 = .ok (.aload_n 0, 1) := by decide +kernel
theorem dX14_readShape_158 : decode prog_13_method_63_code 158 = .ok (.invokevirtual 423, 3) := by decide +kernel
theorem dX14_readShape_161 : decode prog_13_method_63_code 161 = .ok (.aload_n 0, 1) := by decide +kernel
theorem dX14_readShape_162 : decode prog_13_method_63_code 162 = .ok (.invokevirtual 454, 3) := by decide +kernel
theorem dX14_readShape_165 : decode prog_13_method_63_code 165 = .ok (.goto (-24), 3) := by decide +kernel
theorem dX14_readShape_168 : decode prog_13_method_63_code 168 = .ok (.aload_n 0, 1) := by decide +kernel
theorem dX14_readShape_169 : decode prog_13_method_63_code 169 = .ok (.bipush 41, 2) := by decide +kernel
theorem dX14_readShape_171 : decode prog_13_method_63_code 171 = .ok (.invokevirtual 435, 3) := by decide +kernel
theorem dX14_readShape_174 : decode prog_13_method_63_code 174 = .ok (.return_, 1) := by decide +kernel
theorem dX14_isTooGreat_0 : decode prog_13_method_64_code 0 = .ok (.aload_n 0, 1) := by decide +kernel
theorem dX14_isTooGreat_1 : decode prog_13_method_64_code 1 = .ok (.getfield 429, 3) := by decide +kernel
theorem dX14_isTooGreat_4 : decode prog_13_method_64_code 4 = .ok (.bipush 40, 2) := by decide +kernel
theorem dX14_isTooGreat_6 : decode prog_13_method_64_code 6 = .ok (.if_icmp .gt 12, 3) := by decide +kernel
theorem dX14_isTooGreat_9 : decode prog_13_method_64_code 9 = .ok (.aload_n 0, 1) := by decide +kernel
theorem dX14_isTooGreat_10 : decode prog_13_method_64_code 10 = .ok (.getfield 441, 3) := by decide +kernel
theorem dX14_isTooGreat_13 : decode prog_13_method_64_code 13 = .ok (.bipush 8, 2) := by decide +kernel
theorem dX14_isTooGreat_15 : decode prog_13_method_64_code 15 = .ok (.if_icmp .le 7, 3) := by decide +kernel
theorem dX14_isTooGreat_18 : decode prog_13_method_64_code 18 = .ok (.iconst 1, 1) := by decide +kernel
theorem dX14_isTooGreat_19 : decode prog_13_method_64_code 19 = .ok (.goto 4, 3) := by decide +kernel
theorem dX14_isTooGreat_22 : decode prog_13_method_64_code 22 = .ok (.iconst 0, 1) := by decide +kernel
theorem dX14_isTooGreat_23 : decode prog_13_method_64_code 23 = .ok (.ireturn, 1) := by decide +kernel
theorem dX14_init_0 : decode prog_13_method_65_code 0 = .ok (.aload_n 0, 1) := by decide +kernel
theorem dX14_init_1 : decode prog_13_method_65_code 1 = .ok (.invokespecial 457, 3) := by decide +kernel
theorem dX14_init_4 : decode prog_13_method_65_code 4 = .ok (.aload_n 0, 1) := by decide +kernel
theorem dX14_init_5 : decode prog_13_method_65_code 5 = .ok (.bipush 8, 2) := by decide +kernel
theorem dX14_init_7 : decode prog_13_method_65_code 7 = .ok (.newarray .long, 2) := by decide +kernel
theorem dX14_init_9 : decode prog_13_method_65_code 9 = .ok (.putfield 5, 3) := by decide +kernel
theorem dX14_init_12 : decode prog_13_method_65_code 12 = .ok (.aload_n 0, 1) := by decide +kernel
theorem dX14_init_13 : decode prog_13_method_65_code 13 = .ok (.bipush 8, 2) := by decide +kernel
theorem dX14_init_15 : decode prog_13_method_65_code 15 = .ok (.newarray .long, 2) := by decide +kernel
theorem dX14_init_17 : decode prog_13_method_65_code 17 = .ok (.putfield 13, 3) := by decide +kernel
theorem dX14_init_20 : decode prog_13_method_65_code 20 = .ok (.aload_n 0, 1) := by decide +kernel
theorem dX14_init_21 : decode prog_13_method_65_code 21 = .ok (.bipush 8, 2) := by decide +kernel
theorem dX14_init_23 : decode prog_13_method_65_code 23 = .ok (.newarray .long, 2) := by decide +kernel
theorem dX14_init_25 : decode prog_13_method_65_code 25 = .ok (.putfield 16, 3) := by decide +kernel
theorem dX14_init_28 : decode prog_13_method_65_code 28 = .ok (.aload_n 0, 1) := by decide +kernel
theorem dX14_init_29 : decode prog_13_method_65_code 29 = .ok (.bipush 8, 2) := by decide +kernel
theorem dX14_init_31 : decode prog_13_method_65_code 31 = .ok (.newarray .long, 2) := by decide +kernel
theorem dX14_init_33 : decode prog_13_method_65_code 33 = .ok (.putfield 23, 3) := by decide +kernel
theorem dX14_init_36 : decode prog_13_method_65_code 36 = .ok (.aload_n 0, 1) := by decide +kernel
theorem dX14_init_37 : decode prog_13_method_65_code 37 = .ok (.bipush 82, 2) := by decide +kernel
theorem dX14_init_39 : decode prog_13_method_65_code 39 = .ok (.newarray .long, 2) := by decide +kernel
theorem dX14_init_41 : decode prog_13_method_65_code 41 = .ok (.putfield 111, 3) := by decide +kernel
theorem dX14_init_44 : decode prog_13_method_65_code 44 = .ok (.aload_n 0, 1) := by decide +kernel
theorem dX14_init_45 : decode prog_13_method_65_code 45 = .ok (.bipush 82, 2) := by decide +kernel
theorem dX14_init_47 : decode prog_13_method_65_code 47 = .ok (.newarray .long, 2) := by decide +kernel
theorem dX14_init_49 : decode prog_13_method_65_code 49 = .ok (.putfield 117, 3) := by decide +kernel
theorem dX14_init_52 : decode prog_13_method_65_code 52 = .ok (.aload_n 0, 1) := by decide +kernel
theorem dX14_init_53 : decode prog_13_method_65_code 53 = .ok (.bipush 8, 2) := by decide +kernel
theorem dX14_init_55 : decode prog_13_method_65_code 55 = .ok (.newarray .boolean, 2) := by decide +kernel
theorem dX14_init_57 : decode prog_13_method_65_code 57 = .ok (.putfield 156, 3) := by decide +kernel
theorem dX14_init_60 : decode prog_13_method_65_code 60 = .ok (.aload_n 0, 1) := by decide +kernel
theorem dX14_init_61 : decode prog_13_method_65_code 61 = .ok (.new 31, 3) := by decide +kernel
theorem dX14_init_64 : decode prog_13_method_65_code 64 = .ok (.dup, 1) := by decide +kernel
theorem dX14_init_65 : decode prog_13_method_65_code 65 = .ok (.invokespecial 462, 3) := by decide +kernel
theorem dX14_init_68 : decode prog_13_method_65_code 68 = .ok (.putfield 254, 3) := by decide +kernel
theorem dX14_init_71 : decode prog_13_method_65_code 71 = .ok (.aload_n 0, 1) := by decide +kernel
theorem dX14_init_72 : decode prog_13_method_65_code 72 = .ok (.new 31, 3) := by decide +kernel
theorem dX14_init_75 : decode prog_13_method_65_code 75 = .ok (.dup, 1) := by decide +kernel
theorem dX14_init_76 : decode prog_13_method_65_code 76 = .ok (.invokespecial 462, 3) := by decide +kernel
theorem dX14_init_79 : decode prog_13_method_65_code 79 = .ok (.putfield 262, 3) := by decide +kernel
theorem dX14_init_82 : decode prog_13_method_65_code 82 = .ok (.aload_n 0, 1) := by decide +kernel
theorem dX14_init_83 : decode prog_13_method_65_code 83 = .ok (.bipush 8, 2) := by decide +kernel
theorem dX14_init_85 : decode prog_13_method_65_code 85 = .ok (.newarray .int, 2) := by decide +kernel
theorem dX14_init_87 : decode prog_13_method_65_code 87 = .ok (.putfield 265, 3) := by decide +kernel
theorem dX14_init_90 : decode prog_13_method_65_code 90 = .ok (.aload_n 0, 1) := by decide +kernel
theorem dX14_init_91 : decode prog_13_method_65_code 91 = .ok (.new 289, 3) := by decide +kernel
theorem dX14_init_94 : decode prog_13_method_65_code 94 = .ok (.dup, 1) := by decide +kernel
theorem dX14_init_95 : decode prog_13_method_65_code 95 = .ok (.invokespecial 463, 3) := by decide +kernel
theorem dX14_init_98 : decode prog_13_method_65_code 98 = .ok (.putfield 296, 3) := by decide +kernel
theorem dX14_init_101 : decode prog_13_method_65_code 101 = .ok (.aload_n 0, 1) := by decide +kernel
theorem dX14_init_102 : decode prog_13_method_65_code 102 = .ok (.new 289, 3) := by decide +kernel
theorem dX14_init_105 : decode prog_13_method_65_code 105 = .ok (.dup, 1) := by decide +kernel
theorem dX14_init_106 : decode prog_13_method_65_code 106 = .ok (.invokespecial 463, 3) := by decide +kernel
theorem dX14_init_109 : decode prog_13_method_65_code 109 = .ok (.putfield 464, 3) := by decide +kernel
theorem dX14_init_112 : decode prog_13_method_65_code 112 = .ok (.aload_n 0, 1) := by decide +kernel
theorem dX14_init_113 : decode prog_13_method_65_code 113 = .ok (.new 289, 3) := by decide +kernel
theorem dX14_init_116 : decode prog_13_method_65_code 116 = .ok (.dup, 1) := by decide +kernel
theorem dX14_init_117 : decode prog_13_method_65_code 117 = .ok (.invokespecial 463, 3) := by decide +kernel
theorem dX14_init_120 : decode prog_13_method_65_code 120 = .ok (.putfield 467, 3) := by decide +kernel
theorem dX14_init_123 : decode prog_13_method_65_code 123 = .ok (.aload_n 0, 1) := by decide +kernel
theorem dX14_init_124 : decode prog_13_method_65_code 124 = .ok (.new 355, 3) := by decide +kernel
theorem dX14_init_127 : decode prog_13_method_65_code 127 = .ok (.dup, 1) := by decide +kernel
theorem dX14_init_128 : decode prog_13_method_65_code 128 = .ok (.invokespecial 470, 3) := by decide +kernel
theorem dX14_init_131 : decode prog_13_method_65_code 131 = .ok (.putfield 351, 3) := by decide +kernel
theorem dX14_init_134 : decode prog_13_method_65_code 134 = .ok (.aload_n 0, 1) := by decide +kernel
theorem dX14_init_135 : decode prog_13_method_65_code 135 = .ok (.new 355, 3) := by decide +kernel
theorem dX14_init_138 : decode prog_13_method_65_code 138 = .ok (.dup, 1) := by decide +kernel
theorem dX14_init_139 : decode prog_13_method_65_code 139 = .ok (.invokespecial 470, 3) := by decide +kernel
theorem dX14_init_142 : decode prog_13_method_65_code 142 = .ok (.putfield 347, 3) := by decide +kernel
theorem dX14_init_145 : decode prog_13_method_65_code 145 = .ok (.aload_n 0, 1) := by decide +kernel
theorem dX14_init_146 : decode prog_13_method_65_code 146 = .ok (.iconst (-1), 1) := by decide +kernel
theorem dX14_init_147 : decode prog_13_method_65_code 147 = .ok (.putfield 323, 3) := by decide +kernel
theorem dX14_init_150 : decode prog_13_method_65_code 150 = .ok (.aload_n 0, 1) := by decide +kernel
theorem dX14_init_151 : decode prog_13_method_65_code 151 = .ok (.sipush 4000, 3) := by decide +kernel
theorem dX14_init_154 : decode prog_13_method_65_code 154 = .ok (.newarray .int, 2) := by decide +kernel
theorem dX14_init_156 : decode prog_13_method_65_code 156 = .ok (.putfield 376, 3) := by decide +kernel
theorem dX14_init_159 : decode prog_13_method_65_code 159 = .ok (.aload_n 0, 1) := by decide +kernel
theorem dX14_init_160 : decode prog_13_method_65_code 160 = .ok (.iconst (-1), 1) := by decide +kernel
theorem dX14_init_161 : decode prog_13_method_65_code 161 = .ok (.putfield 370, 3) := by decide +kernel
theorem dX14_init_164 : decode prog_13_method_65_code 164 = .ok (.aload_n 0, 1) := by decide +kernel
theorem dX14_init_165 : decode prog_13_method_65_code 165 = .ok (.sipush 30000, 3) := by decide +kernel
theorem dX14_init_168 : decode prog_13_method_65_code 168 = .ok (.newarray .int, 2) := by decide +kernel
theorem dX14_init_170 : decode prog_13_method_65_code 170 = .ok (.putfield 359, 3) := by decide +kernel
theorem dX14_init_173 : decode prog_13_method_65_code 173 = .ok (.aload_n 0, 1) := by decide +kernel
theorem dX14_init_174 : decode prog_13_method_65_code 174 = .ok (.new 31, 3) := by decide +kernel
theorem dX14_init_177 : decode prog_13_method_65_code 177 = .ok (.dup, 1) := by decide +kernel
theorem dX14_init_178 : decode prog_13_method_65_code 178 = .ok (.invokespecial 462, 3) := by decide +kernel
theorem dX14_init_181 : decode prog_13_method_65_code 181 = .ok (.putfield 432, 3) := by decide +kernel
theorem dX14_init_184 : decode prog_13_method_65_code 184 = .ok (.aload_n 0, 1) := by decide +kernel
theorem dX14_init_185 : decode prog_13_method_65_code 185 = .ok (.bipush 8, 2) := by decide +kernel
theorem dX14_init_187 : decode prog_13_method_65_code 187 = .ok (.newarray .int, 2) := by decide +kernel
theorem dX14_init_189 : decode prog_13_method_65_code 189 = .ok (.putfield 471, 3) := by decide +kernel
theorem dX14_init_192 : decode prog_13_method_65_code 192 = .ok (.aload_n 0, 1) := by decide +kernel
theorem dX14_init_193 : decode prog_13_method_65_code 193 = .ok (.new 31, 3) := by decide +kernel
theorem dX14_init_196 : decode prog_13_method_65_code 196 = .ok (.dup, 1) := by decide +kernel
theorem dX14_init_197 : decode prog_13_method_65_code 197 = .ok (.invokespecial 462, 3) := by decide +kernel
theorem dX14_init_200 : decode prog_13_method_65_code 200 = .ok (.putfield 474, 3) := by decide +kernel
theorem dX14_init_203 : decode prog_13_method_65_code 203 = .ok (.aload_n 0, 1) := by decide +kernel
theorem dX14_init_204 : decode prog_13_method_65_code 204 = .ok (.sipush 200, 3) := by decide +kernel
theorem dX14_init_207 : decode prog_13_method_65_code 207 = .ok (.anewarray 289, 3) := by decide +kernel
theorem dX14_init_210 : decode prog_13_method_65_code 210 = .ok (.putfield 477, 3) := by decide +kernel
theorem dX14_init_213 : decode prog_13_method_65_code 213 = .ok (.aload_n 0, 1) := by decide +kernel
theorem dX14_init_214 : decode prog_13_method_65_code 214 = .ok (.sipush 200, 3) := by decide +kernel
theorem dX14_init_217 : decode prog_13_method_65_code 217 = .ok (.newarray .int, 2) := by decide +kernel
theorem dX14_init_219 : decode prog_13_method_65_code 219 = .ok (.putfield 481, 3) := by decide +kernel
theorem dX14_init_222 : decode prog_13_method_65_code 222 = .ok (.iconst 0, 1) := by decide +kernel
theorem dX14_init_223 : decode prog_13_method_65_code 223 = .ok (.istore_n 1, 1) := by decide +kernel
theorem dX14_init_224 : decode prog_13_method_65_code 224 = .ok (.iload_n 1, 1) := by decide +kernel
theorem dX14_init_225 : decode prog_13_method_65_code 225 = .ok (.sipush 200, 3) := by decide +kernel
theorem dX14_init_228 : decode prog_13_method_65_code 228 = .ok (.if_icmp .ge 22, 3) := by decide +kernel
theorem dX14_init_231 : decode prog_13_method_65_code 231 = .ok (.aload_n 0, 1) := by decide +kernel
theorem dX14_init_232 : decode prog_13_method_65_code 232 = .ok (.getfield 477, 3) := by decide +kernel
theorem dX14_init_235 : decode prog_13_method_65_code 235 = .ok (.iload_n 1, 1) := by decide +kernel
theorem dX14_init_236 : decode prog_13_method_65_code 236 = .ok (.new 289, 3) := by decide +kernel
theorem dX14_init_239 : decode prog_13_method_65_code 239 = .ok (.dup, 1) := by decide +kernel
theorem dX14_init_240 : decode prog_13_method_65_code 240 = .ok (.invokespecial 463, 3) := by decide +kernel
theorem dX14_init_243 : decode prog_13_method_65_code 243 = .ok (.aastore, 1) := by decide +kernel
theorem dX14_init_244 : decode prog_13_method_65_code 244 = .ok (.iinc 1 1, 3) := by decide +kernel
theorem dX14_init_247 : decode prog_13_method_65_code 247 = .ok (.goto (-23), 3) := by decide +kernel
theorem dX14_init_250 : decode prog_13_method_65_code 250 = .ok (.return_, 1) := by decide +kernel
theorem dX14_readInts_0 : decode prog_13_method_66_code 0 = .ok (.iconst 0, 1) := by decide +kernel
theorem dX14_readInts_1 : decode prog_13_method_66_code 1 = .ok (.istore_n 2, 1) := by decide +kernel
theorem dX14_readInts_2 : decode prog_13_method_66_code 2 = .ok (.iload_n 2, 1) := by decide +kernel
theorem dX14_readInts_3 : decode prog_13_method_66_code 3 = .ok (.iload_n 1, 1) := by decide +kernel
theorem dX14_readInts_4 : decode prog_13_method_66_code 4 = .ok (.if_icmp .ge 19, 3) := by decide +kernel
theorem dX14_readInts_7 : decode prog_13_method_66_code 7 = .ok (.aload_n 0, 1) := by decide +kernel
theorem dX14_readInts_8 : decode prog_13_method_66_code 8 = .ok (.getfield 471, 3) := by decide +kernel
theorem dX14_readInts_11 : decode prog_13_method_66_code 11 = .ok (.iload_n 2, 1) := by decide +kernel
theorem dX14_readInts_12 : decode prog_13_method_66_code 12 = .ok (.aload_n 0, 1) := by decide +kernel
theorem dX14_readInts_13 : decode prog_13_method_66_code 13 = .ok (.invokevirtual 426, 3) := by decide +kernel
theorem dX14_readInts_16 : decode prog_13_method_66_code 16 = .ok (.iastore, 1) := by decide +kernel
theorem dX14_readInts_17 : decode prog_13_method_66_code 17 = .ok (.iinc 2 1, 3) := by decide +kernel
theorem dX14_readInts_20 : decode prog_13_method_66_code 20 = .ok (.goto (-18), 3) := by decide +kernel
theorem dX14_readInts_23 : decode prog_13_method_66_code 23 = .ok (.return_, 1) := by decide +kernel
theorem dX14_relationHere_0 : decode prog_13_method_67_code 0 = .ok (.aload_n 0, 1) := by decide +kernel
theorem dX14_relationHere_1 : decode prog_13_method_67_code 1 = .ok (.ldc_w 484, 3) := by decide +kernel
theorem dX14_relationHere_4 : decode prog_13_method_67_code 4 = .ok (.invokevirtual 446, 3) := by decide +kernel
theorem dX14_relationHere_7 : decode prog_13_method_67_code 7 = .ok (.ifCond .eq 7, 3) := by decide +kernel
theorem dX14_relationHere_10 : decode prog_13_method_67_code 10 = .ok (.iconst 0, 1) := by decide +kernel
theorem dX14_relationHere_11 : decode prog_13_method_67_code 11 = .ok (.goto 60, 3) := by decide +kernel
theorem dX14_relationHere_14 : decode prog_13_method_67_code 14 = .ok (.aload_n 0, 1) := by decide +kernel
theorem dX14_relationHere_15 : decode prog_13_method_67_code 15 = .ok (.ldc_w 486, 3) := by decide +kernel
theorem dX14_relationHere_18 : decode prog_13_method_67_code 18 = .ok (.invokevirtual 446, 3) := by decide +kernel
theorem dX14_relationHere_21 : decode prog_13_method_67_code 21 = .ok (.ifCond .eq 7, 3) := by decide +kernel
theorem dX14_relationHere_24 : decode prog_13_method_67_code 24 = .ok (.iconst 1, 1) := by decide +kernel
theorem dX14_relationHere_25 : decode prog_13_method_67_code 25 = .ok (.goto 46, 3) := by decide +kernel
theorem dX14_relationHere_28 : decode prog_13_method_67_code 28 = .ok (.aload_n 0, 1) := by decide +kernel
theorem dX14_relationHere_29 : decode prog_13_method_67_code 29 = .ok (.ldc_w 488, 3) := by decide +kernel
theorem dX14_relationHere_32 : decode prog_13_method_67_code 32 = .ok (.invokevirtual 446, 3) := by decide +kernel
theorem dX14_relationHere_35 : decode prog_13_method_67_code 35 = .ok (.ifCond .eq 7, 3) := by decide +kernel
theorem dX14_relationHere_38 : decode prog_13_method_67_code 38 = .ok (.iconst 2, 1) := by decide +kernel
theorem dX14_relationHere_39 : decode prog_13_method_67_code 39 = .ok (.goto 32, 3) := by decide +kernel
theorem dX14_relationHere_42 : decode prog_13_method_67_code 42 = .ok (.aload_n 0, 1) := by decide +kernel
theorem dX14_relationHere_43 : decode prog_13_method_67_code 43 = .ok (.ldc_w 490, 3) := by decide +kernel
theorem dX14_relationHere_46 : decode prog_13_method_67_code 46 = .ok (.invokevirtual 446, 3) := by decide +kernel
theorem dX14_relationHere_49 : decode prog_13_method_67_code 49 = .ok (.ifCond .eq 7, 3) := by decide +kernel
theorem dX14_relationHere_52 : decode prog_13_method_67_code 52 = .ok (.iconst 3, 1) := by decide +kernel
theorem dX14_relationHere_53 : decode prog_13_method_67_code 53 = .ok (.goto 18, 3) := by decide +kernel
theorem dX14_relationHere_56 : decode prog_13_method_67_code 56 = .ok (.aload_n 0, 1) := by decide +kernel
theorem dX14_relationHere_57 : decode prog_13_method_67_code 57 = .ok (.ldc_w 492, 3) := by decide +kernel
theorem dX14_relationHere_60 : decode prog_13_method_67_code 60 = .ok (.invokevirtual 446, 3) := by decide +kernel
theorem dX14_relationHere_63 : decode prog_13_method_67_code 63 = .ok (.ifCond .eq 7, 3) := by decide +kernel
theorem dX14_relationHere_66 : decode prog_13_method_67_code 66 = .ok (.iconst 4, 1) := by decide +kernel
theorem dX14_relationHere_67 : decode prog_13_method_67_code 67 = .ok (.goto 4, 3) := by decide +kernel
theorem dX14_relationHere_70 : decode prog_13_method_67_code 70 = .ok (.iconst (-1), 1) := by decide +kernel
theorem dX14_relationHere_71 : decode prog_13_method_67_code 71 = .ok (.istore_n 1, 1) := by decide +kernel
theorem dX14_relationHere_72 : decode prog_13_method_67_code 72 = .ok (.iload_n 1, 1) := by decide +kernel
theorem dX14_relationHere_73 : decode prog_13_method_67_code 73 = .ok (.ifCond .ge 10, 3) := by decide +kernel
theorem dX14_relationHere_76 : decode prog_13_method_67_code 76 = .ok (.aload_n 0, 1) := by decide +kernel
theorem dX14_relationHere_77 : decode prog_13_method_67_code 77 = .ok (.invokevirtual 420, 3) := by decide +kernel
theorem dX14_relationHere_80 : decode prog_13_method_67_code 80 = .ok (.goto 7, 3) := by decide +kernel
theorem dX14_relationHere_83 : decode prog_13_method_67_code 83 = .ok (.aload_n 0, 1) := by decide +kernel
theorem dX14_relationHere_84 : decode prog_13_method_67_code 84 = .ok (.invokevirtual 423, 3) := by decide +kernel
theorem dX14_relationHere_87 : decode prog_13_method_67_code 87 = .ok (.iload_n 1, 1) := by decide +kernel
theorem dX14_relationHere_88 : decode prog_13_method_67_code 88 = .ok (.ireturn, 1) := by decide +kernel
theorem dX14_statement_0 : decode prog_13_method_68_code 0 = .ok (.aload_n 0, 1) := by decide +kernel
theorem dX14_statement_1 : decode prog_13_method_68_code 1 = .ok (.ldc_w 494, 3) := by decide +kernel
theorem dX14_statement_4 : decode prog_13_method_68_code 4 = .ok (.invokevirtual 446, 3) := by decide +kernel
theorem dX14_statement_7 : decode prog_13_method_68_code 7 = .ok (.ifCond .eq 42, 3) := by decide +kernel
theorem dX14_statement_10 : decode prog_13_method_68_code 10 = .ok (.aload_n 0, 1) := by decide +kernel
theorem dX14_statement_11 : decode prog_13_method_68_code 11 = .ok (.invokevirtual 423, 3) := by decide +kernel
theorem dX14_statement_14 : decode prog_13_method_68_code 14 = .ok (.aload_n 0, 1) := by decide +kernel
theorem dX14_statement_15 : decode prog_13_method_68_code 15 = .ok (.iconst 1, 1) := by decide +kernel
theorem dX14_statement_16 : decode prog_13_method_68_code 16 = .ok (.invokevirtual 496, 3) := by decide +kernel
theorem dX14_statement_19 : decode prog_13_method_68_code 19 = .ok (.aload_n 0, 1) := by decide +kernel
theorem dX14_statement_20 : decode prog_13_method_68_code 20 = .ok (.invokevirtual 499, 3) := by decide +kernel
theorem dX14_statement_23 : decode prog_13_method_68_code 23 = .ok (.aload_n 0, 1) := by decide +kernel
theorem dX14_statement_24 : decode prog_13_method_68_code 24 = .ok (.bipush 59, 2) := by decide +kernel
theorem dX14_statement_26 : decode prog_13_method_68_code 26 = .ok (.invokevirtual 435, 3) := by decide +kernel
theorem dX14_statement_29 : decode prog_13_method_68_code 29 = .ok (.aload_n 0, 1) := by decide +kernel
theorem dX14_statement_30 : decode prog_13_method_68_code 30 = .ok (.getfield 365, 3) := by decide +kernel
theorem dX14_statement_33 : decode prog_13_method_68_code 33 = .ok (.ifCond .ne 372, 3) := by decide +kernel
theorem dX14_statement_36 : decode prog_13_method_68_code 36 = .ok (.aload_n 0, 1) := by decide +kernel
theorem dX14_statement_37 : decode prog_13_method_68_code 37 = .ok (.aload_n 0, 1) := by decide +kernel
theorem dX14_statement_38 : decode prog_13_method_68_code 38 = .ok (.getfield 471, 3) := by decide +kernel
theorem dX14_statement_41 : decode prog_13_method_68_code 41 = .ok (.iconst 0, 1) := by decide +kernel
theorem dX14_statement_42 : decode prog_13_method_68_code 42 = .ok (.iaload, 1) := by decide +kernel
theorem dX14_statement_43 : decode prog_13_method_68_code 43 = .ok (.invokevirtual 502, 3) := by decide +kernel
theorem dX14_statement_46 : decode prog_13_method_68_code 46 = .ok (.goto 359, 3) := by decide +kernel
theorem dX14_statement_49 : decode prog_13_method_68_code 49 = .ok (.aload_n 0, 1) := by decide +kernel
theorem dX14_statement_50 : decode prog_13_method_68_code 50 = .ok (.ldc_w 504, 3) := by decide +kernel
theorem dX14_statement_53 : decode prog_13_method_68_code 53 = .ok (.invokevirtual 446, 3) := by decide +kernel
theorem dX14_statement_56 : decode prog_13_method_68_code 56 = .ok (.ifCond .eq 38, 3) := by decide +kernel
theorem dX14_statement_59 : decode prog_13_method_68_code 59 = .ok (.aload_n 0, 1) := by decide +kernel
theorem dX14_statement_60 : decode prog_13_method_68_code 60 = .ok (.invokevirtual 423, 3) := by decide +kernel
theorem dX14_statement_63 : decode prog_13_method_68_code 63 = .ok (.aload_n 0, 1) := by decide +kernel
theorem dX14_statement_64 : decode prog_13_method_68_code 64 = .ok (.iconst 1, 1) := by decide +kernel
theorem dX14_statement_65 : decode prog_13_method_68_code 65 = .ok (.invokevirtual 496, 3) := by decide +kernel
theorem dX14_statement_68 : decode prog_13_method_68_code 68 = .ok (.aload_n 0, 1) := by decide +kernel
theorem dX14_statement_69 : decode prog_13_method_68_code 69 = .ok (.bipush 59, 2) := by decide +kernel
theorem dX14_statement_71 : decode prog_13_method_68_code 71 = .ok (.invokevirtual 435, 3) := by decide +kernel
theorem dX14_statement_74 : decode prog_13_method_68_code 74 = .ok (.aload_n 0, 1) := by decide +kernel
theorem dX14_statement_75 : decode prog_13_method_68_code 75 = .ok (.getfield 365, 3) := by decide +kernel
theorem dX14_statement_78 : decode prog_13_method_68_code 78 = .ok (.ifCond .ne 327, 3) := by decide +kernel
theorem dX14_statement_81 : decode prog_13_method_68_code 81 = .ok (.aload_n 0, 1) := by decide +kernel
theorem dX14_statement_82 : decode prog_13_method_68_code 82 = .ok (.aload_n 0, 1) := by decide +kernel
theorem dX14_statement_83 : decode prog_13_method_68_code 83 = .ok (.getfield 471, 3) := by decide +kernel
theorem dX14_statement_86 : decode prog_13_method_68_code 86 = .ok (.iconst 0, 1) := by decide +kernel
theorem dX14_statement_87 : decode prog_13_method_68_code 87 = .ok (.iaload, 1) := by decide +kernel
theorem dX14_statement_88 : decode prog_13_method_68_code 88 = .ok (.invokevirtual 506, 3) := by decide +kernel
theorem dX14_statement_91 : decode prog_13_method_68_code 91 = .ok (.goto 314, 3) := by decide +kernel
theorem dX14_statement_94 : decode prog_13_method_68_code 94 = .ok (.aload_n 0, 1) := by decide +kernel
theorem dX14_statement_95 : decode prog_13_method_68_code 95 = .ok (.ldc_w 509, 3) := by decide +kernel
theorem dX14_statement_98 : decode prog_13_method_68_code 98 = .ok (.invokevirtual 446, 3) := by decide +kernel
theorem dX14_statement_101 : decode prog_13_method_68_code 101 = .ok (.ifCond .eq 50, 3) := by decide +kernel
theorem dX14_statement_104 : decode prog_13_method_68_code 104 = .ok (.aload_n 0, 1) := by decide +kernel
theorem dX14_statement_105 : decode prog_13_method_68_code 105 = .ok (.invokevirtual 423, 3) := by decide +kernel
theorem dX14_statement_108 : decode prog_13_method_68_code 108 = .ok (.aload_n 0, 1) := by decide +kernel
theorem dX14_statement_109 : decode prog_13_method_68_code 109 = .ok (.iconst 3, 1) := by decide +kernel
theorem dX14_statement_110 : decode prog_13_method_68_code 110 = .ok (.invokevirtual 496, 3) := by decide +kernel
theorem dX14_statement_113 : decode prog_13_method_68_code 113 = .ok (.aload_n 0, 1) := by decide +kernel
theorem dX14_statement_114 : decode prog_13_method_68_code 114 = .ok (.bipush 59, 2) := by decide +kernel
theorem dX14_statement_116 : decode prog_13_method_68_code 116 = .ok (.invokevirtual 435, 3) := by decide +kernel
theorem dX14_statement_119 : decode prog_13_method_68_code 119 = .ok (.aload_n 0, 1) := by decide +kernel
theorem dX14_statement_120 : decode prog_13_method_68_code 120 = .ok (.getfield 365, 3) := by decide +kernel
theorem dX14_statement_123 : decode prog_13_method_68_code 123 = .ok (.ifCond .ne 282, 3) := by decide +kernel
theorem dX14_statement_126 : decode prog_13_method_68_code 126 = .ok (.aload_n 0, 1) := by decide +kernel
theorem dX14_statement_127 : decode prog_13_method_68_code 127 = .ok (.aload_n 0, 1) := by decide +kernel
theorem dX14_statement_128 : decode prog_13_method_68_code 128 = .ok (.getfield 471, 3) := by decide +kernel
theorem dX14_statement_131 : decode prog_13_method_68_code 131 = .ok (.iconst 0, 1) := by decide +kernel
theorem dX14_statement_132 : decode prog_13_method_68_code 132 = .ok (.iaload, 1) := by decide +kernel
theorem dX14_statement_133 : decode prog_13_method_68_code 133 = .ok (.aload_n 0, 1) := by decide +kernel
theorem dX14_statement_134 : decode prog_13_method_68_code 134 = .ok (.getfield 471, 3) := by decide +kernel
theorem dX14_statement_137 : decode prog_13_method_68_code 137 = .ok (.iconst 1, 1) := by decide +kernel
theorem dX14_statement_138 : decode prog_13_method_68_code 138 = .ok (.iaload, 1) := by decide +kernel
theorem dX14_statement_139 : decode prog_13_method_68_code 139 = .ok (.aload_n 0, 1) := by decide +kernel
theorem dX14_statement_140 : decode prog_13_method_68_code 140 = .ok (.getfield 471, 3) := by decide +kernel
theorem dX14_statement_143 : decode prog_13_method_68_code 143 = .ok (.iconst 2, 1) := by decide +kernel
theorem dX14_statement_144 : decode prog_13_method_68_code 144 = .ok (.iaload, 1) := by decide +kernel
theorem dX14_statement_145 : decode prog_13_method_68_code 145 = .ok (.invokevirtual 511, 3) := by decide +kernel
