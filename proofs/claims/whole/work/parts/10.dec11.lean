theorem dX14_windowOf_194 : decode prog_13_method_83_code 194 = .ok (.getfield 351, 3) := by decide +kernel
theorem dX14_windowOf_197 : decode prog_13_method_83_code 197 = .ok (.getfield 596, 3) := by decide +kernel
theorem dX14_windowOf_200 : decode prog_13_method_83_code 200 = .ok (.iload 6, 2) := by decide +kernel
theorem dX14_windowOf_202 : decode prog_13_method_83_code 202 = .ok (.aaload, 1) := by decide +kernel
theorem dX14_windowOf_203 : decode prog_13_method_83_code 203 = .ok (.getfield 627, 3) := by decide +kernel
theorem dX14_windowOf_206 : decode prog_13_method_83_code 206 = .ok (.invokevirtual 630, 3) := by decide +kernel
theorem dX14_windowOf_209 : decode prog_13_method_83_code 209 = .ok (.iinc 6 1, 3) := by decide +kernel
theorem dX14_windowOf_212 : decode prog_13_method_83_code 212 = .ok (.goto (-52), 3) := by decide +kernel
theorem dX14_windowOf_215 : decode prog_13_method_83_code 215 = .ok (.aload_n 0, 1) := by decide +kernel
theorem dX14_windowOf_216 : decode prog_13_method_83_code 216 = .ok (.iconst 1, 1) := by decide +kernel
theorem dX14_windowOf_217 : decode prog_13_method_83_code 217 = .ok (.invokevirtual 633, 3) := by decide +kernel
theorem dX14_windowOf_220 : decode prog_13_method_83_code 220 = .ok (.return_, 1) := by decide +kernel
theorem dX14_near_0 : decode prog_13_method_84_code 0 = .ok (.iload_n 1, 1) := by decide +kernel
theorem dX14_near_1 : decode prog_13_method_84_code 1 = .ok (.iconst 1, 1) := by decide +kernel
theorem dX14_near_2 : decode prog_13_method_84_code 2 = .ok (.if_icmp .lt 10, 3) := by decide +kernel
theorem dX14_near_5 : decode prog_13_method_84_code 5 = .ok (.iload_n 1, 1) := by decide +kernel
theorem dX14_near_6 : decode prog_13_method_84_code 6 = .ok (.sipush 200, 3) := by decide +kernel
theorem dX14_near_9 : decode prog_13_method_84_code 9 = .ok (.if_icmp .le 9, 3) := by decide +kernel
theorem dX14_near_12 : decode prog_13_method_84_code 12 = .ok (.aload_n 0, 1) := by decide +kernel
theorem dX14_near_13 : decode prog_13_method_84_code 13 = .ok (.iconst 5, 1) := by decide +kernel
theorem dX14_near_14 : decode prog_13_method_84_code 14 = .ok (.invokevirtual 557, 3) := by decide +kernel
theorem dX14_near_17 : decode prog_13_method_84_code 17 = .ok (.return_, 1) := by decide +kernel
theorem dX14_near_18 : decode prog_13_method_84_code 18 = .ok (.iconst 0, 1) := by decide +kernel
theorem dX14_near_19 : decode prog_13_method_84_code 19 = .ok (.istore 4, 2) := by decide +kernel
theorem dX14_near_21 : decode prog_13_method_84_code 21 = .ok (.iload 4, 2) := by decide +kernel
theorem dX14_near_23 : decode prog_13_method_84_code 23 = .ok (.aload_n 0, 1) := by decide +kernel
theorem dX14_near_24 : decode prog_13_method_84_code 24 = .ok (.getfield 351, 3) := by decide +kernel
theorem dX14_near_27 : decode prog_13_method_84_code 27 = .ok (.getfield 581, 3) := by decide +kernel
theorem dX14_near_30 : decode prog_13_method_84_code 30 = .ok (.if_icmp .ge 100, 3) := by decide +kernel
theorem dX14_near_33 : decode prog_13_method_84_code 33 = .ok (.aload_n 0, 1) := by decide +kernel
theorem dX14_near_34 : decode prog_13_method_84_code 34 = .ok (.aload_n 0, 1) := by decide +kernel
theorem dX14_near_35 : decode prog_13_method_84_code 35 = .ok (.getfield 351, 3) := by decide +kernel
theorem dX14_near_38 : decode prog_13_method_84_code 38 = .ok (.getfield 596, 3) := by decide +kernel
theorem dX14_near_41 : decode prog_13_method_84_code 41 = .ok (.iload 4, 2) := by decide +kernel
theorem dX14_near_43 : decode prog_13_method_84_code 43 = .ok (.aaload, 1) := by decide +kernel
theorem dX14_near_44 : decode prog_13_method_84_code 44 = .ok (.iload_n 2, 1) := by decide +kernel
theorem dX14_near_45 : decode prog_13_method_84_code 45 = .ok (.iload_n 3, 1) := by decide +kernel
theorem dX14_near_46 : decode prog_13_method_84_code 46 = .ok (.aload_n 0, 1) := by decide +kernel
theorem dX14_near_47 : decode prog_13_method_84_code 47 = .ok (.getfield 477, 3) := by decide +kernel
theorem dX14_near_50 : decode prog_13_method_84_code 50 = .ok (.iload 4, 2) := by decide +kernel
theorem dX14_near_52 : decode prog_13_method_84_code 52 = .ok (.aaload, 1) := by decide +kernel
theorem dX14_near_53 : decode prog_13_method_84_code 53 = .ok (.invokevirtual 636, 3) := by decide +kernel
theorem dX14_near_56 : decode prog_13_method_84_code 56 = .ok (.iload 4, 2) := by decide +kernel
theorem dX14_near_58 : decode prog_13_method_84_code 58 = .ok (.istore 5, 2) := by decide +kernel
theorem dX14_near_60 : decode prog_13_method_84_code 60 = .ok (.iload 5, 2) := by decide +kernel
theorem dX14_near_62 : decode prog_13_method_84_code 62 = .ok (.ifCond .le 53, 3) := by decide +kernel
theorem dX14_near_65 : decode prog_13_method_84_code 65 = .ok (.aload_n 0, 1) := by decide +kernel
theorem dX14_near_66 : decode prog_13_method_84_code 66 = .ok (.aload_n 0, 1) := by decide +kernel
theorem dX14_near_67 : decode prog_13_method_84_code 67 = .ok (.getfield 477, 3) := by decide +kernel
theorem dX14_near_70 : decode prog_13_method_84_code 70 = .ok (.aload_n 0, 1) := by decide +kernel
theorem dX14_near_71 : decode prog_13_method_84_code 71 = .ok (.getfield 481, 3) := by decide +kernel
theorem dX14_near_74 : decode prog_13_method_84_code 74 = .ok (.iload 5, 2) := by decide +kernel
theorem dX14_near_76 : decode prog_13_method_84_code 76 = .ok (.iconst 1, 1) := by decide +kernel
theorem dX14_near_77 : decode prog_13_method_84_code 77 = .ok (.isub, 1) := by decide +kernel
theorem dX14_near_78 : decode prog_13_method_84_code 78 = .ok (.iaload, 1) := by decide +kernel
theorem dX14_near_79 : decode prog_13_method_84_code 79 = .ok (.aaload, 1) := by decide +kernel
theorem dX14_near_80 : decode prog_13_method_84_code 80 = .ok (.aload_n 0, 1) := by decide +kernel
theorem dX14_near_81 : decode prog_13_method_84_code 81 = .ok (.getfield 477, 3) := by decide +kernel
theorem dX14_near_84 : decode prog_13_method_84_code 84 = .ok (.iload 4, 2) := by decide +kernel
theorem dX14_near_86 : decode prog_13_method_84_code 86 = .ok (.aaload, 1) := by decide +kernel
theorem dX14_near_87 : decode prog_13_method_84_code 87 = .ok (.invokevirtual 315, 3) := by decide +kernel
theorem dX14_near_90 : decode prog_13_method_84_code 90 = .ok (.ifCond .le 25, 3) := by decide +kernel
theorem dX14_near_93 : decode prog_13_method_84_code 93 = .ok (.aload_n 0, 1) := by decide +kernel
theorem dX14_near_94 : decode prog_13_method_84_code 94 = .ok (.getfield 481, 3) := by decide +kernel
theorem dX14_near_97 : decode prog_13_method_84_code 97 = .ok (.iload 5, 2) := by decide +kernel
theorem dX14_near_99 : decode prog_13_method_84_code 99 = .ok (.aload_n 0, 1) := by decide +kernel
theorem dX14_near_100 : decode prog_13_method_84_code 100 = .ok (.getfield 481, 3) := by decide +kernel
theorem dX14_near_103 : decode prog_13_method_84_code 103 = .ok (.iload 5, 2) := by decide +kernel
theorem dX14_near_105 : decode prog_13_method_84_code 105 = .ok (.iconst 1, 1) := by decide +kernel
theorem dX14_near_106 : decode prog_13_method_84_code 106 = .ok (.isub, 1) := by decide +kernel
theorem dX14_near_107 : decode prog_13_method_84_code 107 = .ok (.iaload, 1) := by decide +kernel
theorem dX14_near_108 : decode prog_13_method_84_code 108 = .ok (.iastore, 1) := by decide +kernel
theorem dX14_near_109 : decode prog_13_method_84_code 109 = .ok (.iinc 5 (-1), 3) := by decide +kernel
theorem dX14_near_112 : decode prog_13_method_84_code 112 = .ok (.goto (-52), 3) := by decide +kernel
theorem dX14_near_115 : decode prog_13_method_84_code 115 = .ok (.aload_n 0, 1) := by decide +kernel
theorem dX14_near_116 : decode prog_13_method_84_code 116 = .ok (.getfield 481, 3) := by decide +kernel
theorem dX14_near_119 : decode prog_13_method_84_code 119 = .ok (.iload 5, 2) := by decide +kernel
theorem dX14_near_121 : decode prog_13_method_84_code 121 = .ok (.iload 4, 2) := by decide +kernel
theorem dX14_near_123 : decode prog_13_method_84_code 123 = .ok (.iastore, 1) := by decide +kernel
theorem dX14_near_124 : decode prog_13_method_84_code 124 = .ok (.iinc 4 1, 3) := by decide +kernel
theorem dX14_near_127 : decode prog_13_method_84_code 127 = .ok (.goto (-106), 3) := by decide +kernel
theorem dX14_near_130 : decode prog_13_method_84_code 130 = .ok (.aload_n 0, 1) := by decide +kernel
theorem dX14_near_131 : decode prog_13_method_84_code 131 = .ok (.invokevirtual 620, 3) := by decide +kernel
theorem dX14_near_134 : decode prog_13_method_84_code 134 = .ok (.iconst 0, 1) := by decide +kernel
theorem dX14_near_135 : decode prog_13_method_84_code 135 = .ok (.istore 4, 2) := by decide +kernel
theorem dX14_near_137 : decode prog_13_method_84_code 137 = .ok (.iload 4, 2) := by decide +kernel
theorem dX14_near_139 : decode prog_13_method_84_code 139 = .ok (.aload_n 0, 1) := by decide +kernel
theorem dX14_near_140 : decode prog_13_method_84_code 140 = .ok (.getfield 351, 3) := by decide +kernel
theorem dX14_near_143 : decode prog_13_method_84_code 143 = .ok (.getfield 581, 3) := by decide +kernel
theorem dX14_near_146 : decode prog_13_method_84_code 146 = .ok (.if_icmp .ge 37, 3) := by decide +kernel
theorem dX14_near_149 : decode prog_13_method_84_code 149 = .ok (.iload 4, 2) := by decide +kernel
theorem dX14_near_151 : decode prog_13_method_84_code 151 = .ok (.iload_n 1, 1) := by decide +kernel
theorem dX14_near_152 : decode prog_13_method_84_code 152 = .ok (.if_icmp .ge 31, 3) := by decide +kernel
theorem dX14_near_155 : decode prog_13_method_84_code 155 = .ok (.aload_n 0, 1) := by decide +kernel
theorem dX14_near_156 : decode prog_13_method_84_code 156 = .ok (.aload_n 0, 1) := by decide +kernel
theorem dX14_near_157 : decode prog_13_method_84_code 157 = .ok (.getfield 351, 3) := by decide +kernel
theorem dX14_near_160 : decode prog_13_method_84_code 160 = .ok (.getfield 596, 3) := by decide +kernel
theorem dX14_near_163 : decode prog_13_method_84_code 163 = .ok (.aload_n 0, 1) := by decide +kernel
theorem dX14_near_164 : decode prog_13_method_84_code 164 = .ok (.getfield 481, 3) := by decide +kernel
theorem dX14_near_167 : decode prog_13_method_84_code 167 = .ok (.iload 4, 2) := by decide +kernel
theorem dX14_near_169 : decode prog_13_method_84_code 169 = .ok (.iaload, 1) := by decide +kernel
theorem dX14_near_170 : decode prog_13_method_84_code 170 = .ok (.aaload, 1) := by decide +kernel
theorem dX14_near_171 : decode prog_13_method_84_code 171 = .ok (.getfield 627, 3) := by decide +kernel
theorem dX14_near_174 : decode prog_13_method_84_code 174 = .ok (.invokevirtual 630, 3) := by decide +kernel
theorem dX14_near_177 : decode prog_13_method_84_code 177 = .ok (.iinc 4 1, 3) := by decide +kernel
theorem dX14_near_180 : decode prog_13_method_84_code 180 = .ok (.goto (-43), 3) := by decide +kernel
theorem dX14_near_183 : decode prog_13_method_84_code 183 = .ok (.aload_n 0, 1) := by decide +kernel
theorem dX14_near_184 : decode prog_13_method_84_code 184 = .ok (.iconst 1, 1) := by decide +kernel
theorem dX14_near_185 : decode prog_13_method_84_code 185 = .ok (.invokevirtual 633, 3) := by decide +kernel
theorem dX14_near_188 : decode prog_13_method_84_code 188 = .ok (.return_, 1) := by decide +kernel
theorem dX14_joinOf_0 : decode prog_13_method_85_code 0 = .ok (.iload_n 3, 1) := by decide +kernel
theorem dX14_joinOf_1 : decode prog_13_method_85_code 1 = .ok (.iload_n 2, 1) := by decide +kernel
theorem dX14_joinOf_2 : decode prog_13_method_85_code 2 = .ok (.if_icmp .lt 36, 3) := by decide +kernel
theorem dX14_joinOf_5 : decode prog_13_method_85_code 5 = .ok (.iload 5, 2) := by decide +kernel
theorem dX14_joinOf_7 : decode prog_13_method_85_code 7 = .ok (.iload 4, 2) := by decide +kernel
theorem dX14_joinOf_9 : decode prog_13_method_85_code 9 = .ok (.if_icmp .lt 29, 3) := by decide +kernel
theorem dX14_joinOf_12 : decode prog_13_method_85_code 12 = .ok (.iload_n 3, 1) := by decide +kernel
theorem dX14_joinOf_13 : decode prog_13_method_85_code 13 = .ok (.i2l, 1) := by decide +kernel
theorem dX14_joinOf_14 : decode prog_13_method_85_code 14 = .ok (.iload_n 2, 1) := by decide +kernel
theorem dX14_joinOf_15 : decode prog_13_method_85_code 15 = .ok (.i2l, 1) := by decide +kernel
theorem dX14_joinOf_16 : decode prog_13_method_85_code 16 = .ok (.lsub, 1) := by decide +kernel
theorem dX14_joinOf_17 : decode prog_13_method_85_code 17 = .ok (.ldc2_w 640, 3) := by decide +kernel
theorem dX14_joinOf_20 : decode prog_13_method_85_code 20 = .ok (.lcmp, 1) := by decide +kernel
theorem dX14_joinOf_21 : decode prog_13_method_85_code 21 = .ok (.ifCond .gt 17, 3) := by decide +kernel
theorem dX14_joinOf_24 : decode prog_13_method_85_code 24 = .ok (.iload 5, 2) := by decide +kernel
theorem dX14_joinOf_26 : decode prog_13_method_85_code 26 = .ok (.i2l, 1) := by decide +kernel
theorem dX14_joinOf_27 : decode prog_13_method_85_code 27 = .ok (.iload 4, 2) := by decide +kernel
theorem dX14_joinOf_29 : decode prog_13_method_85_code 29 = .ok (.i2l, 1) := by decide +kernel
theorem dX14_joinOf_30 : decode prog_13_method_85_code 30 = .ok (.lsub, 1) := by decide +kernel
theorem dX14_joinOf_31 : decode prog_13_method_85_code 31 = .ok (.ldc2_w 640, 3) := by decide +kernel
theorem dX14_joinOf_34 : decode prog_13_method_85_code 34 = .ok (.lcmp, 1) := by decide +kernel
theorem dX14_joinOf_35 : decode prog_13_method_85_code 35 = .ok (.ifCond .le 9, 3) := by decide +kernel
theorem dX14_joinOf_38 : decode prog_13_method_85_code 38 = .ok (.aload_n 0, 1) := by decide +kernel
theorem dX14_joinOf_39 : decode prog_13_method_85_code 39 = .ok (.iconst 5, 1) := by decide +kernel
theorem dX14_joinOf_40 : decode prog_13_method_85_code 40 = .ok (.invokevirtual 557, 3) := by decide +kernel
theorem dX14_joinOf_43 : decode prog_13_method_85_code 43 = .ok (.return_, 1) := by decide +kernel
theorem dX14_joinOf_44 : decode prog_13_method_85_code 44 = .ok (.aload_n 0, 1) := by decide +kernel
theorem dX14_joinOf_45 : decode prog_13_method_85_code 45 = .ok (.invokevirtual 620, 3) := by decide +kernel
theorem dX14_joinOf_48 : decode prog_13_method_85_code 48 = .ok (.iconst 0, 1) := by decide +kernel
theorem dX14_joinOf_49 : decode prog_13_method_85_code 49 = .ok (.istore 6, 2) := by decide +kernel
theorem dX14_joinOf_51 : decode prog_13_method_85_code 51 = .ok (.iload 6, 2) := by decide +kernel
theorem dX14_joinOf_53 : decode prog_13_method_85_code 53 = .ok (.aload_n 0, 1) := by decide +kernel
theorem dX14_joinOf_54 : decode prog_13_method_85_code 54 = .ok (.getfield 351, 3) := by decide +kernel
theorem dX14_joinOf_57 : decode prog_13_method_85_code 57 = .ok (.getfield 581, 3) := by decide +kernel
theorem dX14_joinOf_60 : decode prog_13_method_85_code 60 = .ok (.if_icmp .ge 132, 3) := by decide +kernel
theorem dX14_joinOf_63 : decode prog_13_method_85_code 63 = .ok (.aload_n 0, 1) := by decide +kernel
theorem dX14_joinOf_64 : decode prog_13_method_85_code 64 = .ok (.getfield 351, 3) := by decide +kernel
theorem dX14_joinOf_67 : decode prog_13_method_85_code 67 = .ok (.getfield 596, 3) := by decide +kernel
theorem dX14_joinOf_70 : decode prog_13_method_85_code 70 = .ok (.iload 6, 2) := by decide +kernel
theorem dX14_joinOf_72 : decode prog_13_method_85_code 72 = .ok (.aaload, 1) := by decide +kernel
theorem dX14_joinOf_73 : decode prog_13_method_85_code 73 = .ok (.astore 7, 2) := by decide +kernel
theorem dX14_joinOf_75 : decode prog_13_method_85_code 75 = .ok (.iconst 0, 1) := by decide +kernel
theorem dX14_joinOf_76 : decode prog_13_method_85_code 76 = .ok (.istore 8, 2) := by decide +kernel
theorem dX14_joinOf_78 : decode prog_13_method_85_code 78 = .ok (.iload 8, 2) := by decide +kernel
theorem dX14_joinOf_80 : decode prog_13_method_85_code 80 = .ok (.aload_n 0, 1) := by decide +kernel
theorem dX14_joinOf_81 : decode prog_13_method_85_code 81 = .ok (.getfield 351, 3) := by decide +kernel
theorem dX14_joinOf_84 : decode prog_13_method_85_code 84 = .ok (.getfield 581, 3) := by decide +kernel
theorem dX14_joinOf_87 : decode prog_13_method_85_code 87 = .ok (.if_icmp .ge 99, 3) := by decide +kernel
theorem dX14_joinOf_90 : decode prog_13_method_85_code 90 = .ok (.aload 7, 2) := by decide +kernel
theorem dX14_joinOf_92 : decode prog_13_method_85_code 92 = .ok (.getfield 627, 3) := by decide +kernel
theorem dX14_joinOf_95 : decode prog_13_method_85_code 95 = .ok (.iload_n 2, 1) := by decide +kernel
theorem dX14_joinOf_96 : decode prog_13_method_85_code 96 = .ok (.if_icmp .lt 90, 3) := by decide +kernel
theorem dX14_joinOf_99 : decode prog_13_method_85_code 99 = .ok (.aload 7, 2) := by decide +kernel
theorem dX14_joinOf_101 : decode prog_13_method_85_code 101 = .ok (.getfield 627, 3) := by decide +kernel
theorem dX14_joinOf_104 : decode prog_13_method_85_code 104 = .ok (.iload_n 3, 1) := by decide +kernel
theorem dX14_joinOf_105 : decode prog_13_method_85_code 105 = .ok (.if_icmp .gt 81, 3) := by decide +kernel
theorem dX14_joinOf_108 : decode prog_13_method_85_code 108 = .ok (.aload_n 0, 1) := by decide +kernel
theorem dX14_joinOf_109 : decode prog_13_method_85_code 109 = .ok (.getfield 351, 3) := by decide +kernel
theorem dX14_joinOf_112 : decode prog_13_method_85_code 112 = .ok (.getfield 596, 3) := by decide +kernel
theorem dX14_joinOf_115 : decode prog_13_method_85_code 115 = .ok (.iload 8, 2) := by decide +kernel
theorem dX14_joinOf_117 : decode prog_13_method_85_code 117 = .ok (.aaload, 1) := by decide +kernel
theorem dX14_joinOf_118 : decode prog_13_method_85_code 118 = .ok (.astore 9, 2) := by decide +kernel
theorem dX14_joinOf_120 : decode prog_13_method_85_code 120 = .ok (.iload 6, 2) := by decide +kernel
theorem dX14_joinOf_122 : decode prog_13_method_85_code 122 = .ok (.iload 8, 2) := by decide +kernel
theorem dX14_joinOf_124 : decode prog_13_method_85_code 124 = .ok (.if_icmp .eq 56, 3) := by decide +kernel
theorem dX14_joinOf_127 : decode prog_13_method_85_code 127 = .ok (.aload 9, 2) := by decide +kernel
theorem dX14_joinOf_129 : decode prog_13_method_85_code 129 = .ok (.getfield 627, 3) := by decide +kernel
theorem dX14_joinOf_132 : decode prog_13_method_85_code 132 = .ok (.iload 4, 2) := by decide +kernel
theorem dX14_joinOf_134 : decode prog_13_method_85_code 134 = .ok (.if_icmp .lt 46, 3) := by decide +kernel
theorem dX14_joinOf_137 : decode prog_13_method_85_code 137 = .ok (.aload 9, 2) := by decide +kernel
theorem dX14_joinOf_139 : decode prog_13_method_85_code 139 = .ok (.getfield 627, 3) := by decide +kernel
theorem dX14_joinOf_142 : decode prog_13_method_85_code 142 = .ok (.iload 5, 2) := by decide +kernel
theorem dX14_joinOf_144 : decode prog_13_method_85_code 144 = .ok (.if_icmp .gt 36, 3) := by decide +kernel
theorem dX14_joinOf_147 : decode prog_13_method_85_code 147 = .ok (.aload_n 0, 1) := by decide +kernel
theorem dX14_joinOf_148 : decode prog_13_method_85_code 148 = .ok (.iload_n 1, 1) := by decide +kernel
theorem dX14_joinOf_149 : decode prog_13_method_85_code 149 = .ok (.aload 7, 2) := by decide +kernel
theorem dX14_joinOf_151 : decode prog_13_method_85_code 151 = .ok (.aload 9, 2) := by decide +kernel
theorem dX14_joinOf_153 : decode prog_13_method_85_code 153 = .ok (.invokevirtual 623, 3) := by decide +kernel
theorem dX14_joinOf_156 : decode prog_13_method_85_code 156 = .ok (.ifCond .ne 6, 3) := by decide +kernel
theorem dX14_joinOf_159 : decode prog_13_method_85_code 159 = .ok (.goto 21, 3) := by decide +kernel
theorem dX14_joinOf_162 : decode prog_13_method_85_code 162 = .ok (.aload_n 0, 1) := by decide +kernel
theorem dX14_joinOf_163 : decode prog_13_method_85_code 163 = .ok (.aload 7, 2) := by decide +kernel
theorem dX14_joinOf_165 : decode prog_13_method_85_code 165 = .ok (.getfield 627, 3) := by decide +kernel
theorem dX14_joinOf_168 : decode prog_13_method_85_code 168 = .ok (.invokevirtual 630, 3) := by decide +kernel
theorem dX14_joinOf_171 : decode prog_13_method_85_code 171 = .ok (.aload_n 0, 1) := by decide +kernel
theorem dX14_joinOf_172 : decode prog_13_method_85_code 172 = .ok (.aload 9, 2) := by decide +kernel
theorem dX14_joinOf_174 : decode prog_13_method_85_code 174 = .ok (.getfield 627, 3) := by decide +kernel
theorem dX14_joinOf_177 : decode prog_13_method_85_code 177 = .ok (.invokevirtual 630, 3) := by decide +kernel
theorem dX14_joinOf_180 : decode prog_13_method_85_code 180 = .ok (.iinc 8 1, 3) := by decide +kernel
theorem dX14_joinOf_183 : decode prog_13_method_85_code 183 = .ok (.goto (-105), 3) := by decide +kernel
theorem dX14_joinOf_186 : decode prog_13_method_85_code 186 = .ok (.iinc 6 1, 3) := by decide +kernel
theorem dX14_joinOf_189 : decode prog_13_method_85_code 189 = .ok (.goto (-138), 3) := by decide +kernel
theorem dX14_joinOf_192 : decode prog_13_method_85_code 192 = .ok (.aload_n 0, 1) := by decide +kernel
theorem dX14_joinOf_193 : decode prog_13_method_85_code 193 = .ok (.iconst 2, 1) := by decide +kernel
theorem dX14_joinOf_194 : decode prog_13_method_85_code 194 = .ok (.invokevirtual 633, 3) := by decide +kernel
theorem dX14_joinOf_197 : decode prog_13_method_85_code 197 = .ok (.return_, 1) := by decide +kernel
theorem dX14_lay_0 : decode prog_13_method_86_code 0 = .ok (.bipush 56, 2) := by decide +kernel
theorem dX14_lay_2 : decode prog_13_method_86_code 2 = .ok (.istore_n 3, 1) := by decide +kernel
theorem dX14_lay_3 : decode prog_13_method_86_code 3 = .ok (.iload_n 3, 1) := by decide +kernel
theorem dX14_lay_4 : decode prog_13_method_86_code 4 = .ok (.ifCond .lt 36, 3) := by decide +kernel
theorem dX14_lay_7 : decode prog_13_method_86_code 7 = .ok (.aload_n 0, 1) := by decide +kernel
theorem dX14_lay_8 : decode prog_13_method_86_code 8 = .ok (.getfield 376, 3) := by decide +kernel
theorem dX14_lay_11 : decode prog_13_method_86_code 11 = .ok (.aload_n 0, 1) := by decide +kernel
theorem dX14_lay_12 : decode prog_13_method_86_code 12 = .ok (.getfield 373, 3) := by decide +kernel
theorem dX14_lay_15 : decode prog_13_method_86_code 15 = .ok (.lload_n 1, 1) := by decide +kernel
theorem dX14_lay_16 : decode prog_13_method_86_code 16 = .ok (.iload_n 3, 1) := by decide +kernel
theorem dX14_lay_17 : decode prog_13_method_86_code 17 = .ok (.lshr, 1) := by decide +kernel
theorem dX14_lay_18 : decode prog_13_method_86_code 18 = .ok (.ldc2_w 642, 3) := by decide +kernel
theorem dX14_lay_21 : decode prog_13_method_86_code 21 = .ok (.land, 1) := by decide +kernel
theorem dX14_lay_22 : decode prog_13_method_86_code 22 = .ok (.l2i, 1) := by decide +kernel
theorem dX14_lay_23 : decode prog_13_method_86_code 23 = .ok (.iastore, 1) := by decide +kernel
theorem dX14_lay_24 : decode prog_13_method_86_code 24 = .ok (.aload_n 0, 1) := by decide +kernel
theorem dX14_lay_25 : decode prog_13_method_86_code 25 = .ok (.dup, 1) := by decide +kernel
theorem dX14_lay_26 : decode prog_13_method_86_code 26 = .ok (.getfield 373, 3) := by decide +kernel
theorem dX14_lay_29 : decode prog_13_method_86_code 29 = .ok (.iconst 1, 1) := by decide +kernel
theorem dX14_lay_30 : decode prog_13_method_86_code 30 = .ok (.iadd, 1) := by decide +kernel
theorem dX14_lay_31 : decode prog_13_method_86_code 31 = .ok (.putfield 373, 3) := by decide +kernel
theorem dX14_lay_34 : decode prog_13_method_86_code 34 = .ok (.iinc 3 (-8), 3) := by decide +kernel
theorem dX14_lay_37 : decode prog_13_method_86_code 37 = .ok (.goto (-34), 3) := by decide +kernel
theorem dX14_lay_40 : decode prog_13_method_86_code 40 = .ok (.return_, 1) := by decide +kernel
theorem dX14_feed_0 : decode prog_13_method_87_code 0 = .ok (.aload_n 0, 1) := by decide +kernel
theorem dX14_feed_1 : decode prog_13_method_87_code 1 = .ok (.getfield 373, 3) := by decide +kernel
theorem dX14_feed_4 : decode prog_13_method_87_code 4 = .ok (.bipush 40, 2) := by decide +kernel
theorem dX14_feed_6 : decode prog_13_method_87_code 6 = .ok (.iadd, 1) := by decide +kernel
theorem dX14_feed_7 : decode prog_13_method_87_code 7 = .ok (.sipush 4000, 3) := by decide +kernel
theorem dX14_feed_10 : decode prog_13_method_87_code 10 = .ok (.if_icmp .le 5, 3) := by decide +kernel
theorem dX14_feed_13 : decode prog_13_method_87_code 13 = .ok (.iconst (-1), 1) := by decide +kernel
theorem dX14_feed_14 : decode prog_13_method_87_code 14 = .ok (.ireturn, 1) := by decide +kernel
theorem dX14_feed_15 : decode prog_13_method_87_code 15 = .ok (.aload_n 0, 1) := by decide +kernel
theorem dX14_feed_16 : decode prog_13_method_87_code 16 = .ok (.lload_n 1, 1) := by decide +kernel
theorem dX14_feed_17 : decode prog_13_method_87_code 17 = .ok (.invokevirtual 644, 3) := by decide +kernel
theorem dX14_feed_20 : decode prog_13_method_87_code 20 = .ok (.aload_n 0, 1) := by decide +kernel
theorem dX14_feed_21 : decode prog_13_method_87_code 21 = .ok (.lload_n 3, 1) := by decide +kernel
theorem dX14_feed_22 : decode prog_13_method_87_code 22 = .ok (.invokevirtual 644, 3) := by decide +kernel
theorem dX14_feed_25 : decode prog_13_method_87_code 25 = .ok (.aload_n 0, 1) := by decide +kernel
theorem dX14_feed_26 : decode prog_13_method_87_code 26 = .ok (.lload 5, 2) := by decide +kernel
theorem dX14_feed_28 : decode prog_13_method_87_code 28 = .ok (.invokevirtual 644, 3) := by decide +kernel
theorem dX14_feed_31 : decode prog_13_method_87_code 31 = .ok (.aload_n 0, 1) := by decide +kernel
theorem dX14_feed_32 : decode prog_13_method_87_code 32 = .ok (.lload 7, 2) := by decide +kernel
theorem dX14_feed_34 : decode prog_13_method_87_code 34 = .ok (.invokevirtual 644, 3) := by decide +kernel
theorem dX14_feed_37 : decode prog_13_method_87_code 37 = .ok (.aload_n 0, 1) := by decide +kernel
theorem dX14_feed_38 : decode prog_13_method_87_code 38 = .ok (.lload 9, 2) := by decide +kernel
theorem dX14_feed_40 : decode prog_13_method_87_code 40 = .ok (.invokevirtual 644, 3) := by decide +kernel
theorem dX14_feed_43 : decode prog_13_method_87_code 43 = .ok (.aload_n 0, 1) := by decide +kernel
theorem dX14_feed_44 : decode prog_13_method_87_code 44 = .ok (.getfield 373, 3) := by decide +kernel
theorem dX14_feed_47 : decode prog_13_method_87_code 47 = .ok (.ireturn, 1) := by decide +kernel
theorem dX14_end_0 : decode prog_13_method_88_code 0 = .ok (.iload_n 1, 1) := by decide +kernel
theorem dX14_end_1 : decode prog_13_method_88_code 1 = .ok (.ifCond .lt 20, 3) := by decide +kernel
theorem dX14_end_4 : decode prog_13_method_88_code 4 = .ok (.iload_n 1, 1) := by decide +kernel
theorem dX14_end_5 : decode prog_13_method_88_code 5 = .ok (.bipush 40, 2) := by decide +kernel
theorem dX14_end_7 : decode prog_13_method_88_code 7 = .ok (.if_icmp .gt 14, 3) := by decide +kernel
theorem dX14_end_10 : decode prog_13_method_88_code 10 = .ok (.aload_n 0, 1) := by decide +kernel
theorem dX14_end_11 : decode prog_13_method_88_code 11 = .ok (.getfield 373, 3) := by decide +kernel
theorem dX14_end_14 : decode prog_13_method_88_code 14 = .ok (.bipush 40, 2) := by decide +kernel
theorem dX14_end_16 : decode prog_13_method_88_code 16 = .ok (.iload_n 1, 1) := by decide +kernel
theorem dX14_end_17 : decode prog_13_method_88_code 17 = .ok (.isub, 1) := by decide +kernel
theorem dX14_end_18 : decode prog_13_method_88_code 18 = .ok (.if_icmp .ge 5, 3) := by decide +kernel
theorem dX14_end_21 : decode prog_13_method_88_code 21 = .ok (.iconst (-1), 1) := by decide +kernel
theorem dX14_end_22 : decode prog_13_method_88_code 22 = .ok (.ireturn, 1) := by decide +kernel
theorem dX14_end_23 : decode prog_13_method_88_code 23 = .ok (.aload_n 0, 1) := by decide +kernel
theorem dX14_end_24 : decode prog_13_method_88_code 24 = .ok (.dup, 1) := by decide +kernel
theorem dX14_end_25 : decode prog_13_method_88_code 25 = .ok (.getfield 373, 3) := by decide +kernel
theorem dX14_end_28 : decode prog_13_method_88_code 28 = .ok (.bipush 40, 2) := by decide +kernel
theorem dX14_end_30 : decode prog_13_method_88_code 30 = .ok (.iload_n 1, 1) := by decide +kernel
theorem dX14_end_31 : decode prog_13_method_88_code 31 = .ok (.isub, 1) := by decide +kernel
theorem dX14_end_32 : decode prog_13_method_88_code 32 = .ok (.isub, 1) := by decide +kernel
theorem dX14_end_33 : decode prog_13_method_88_code 33 = .ok (.putfield 373, 3) := by decide +kernel
theorem dX14_end_36 : decode prog_13_method_88_code 36 = .ok (.aload_n 0, 1) := by decide +kernel
theorem dX14_end_37 : decode prog_13_method_88_code 37 = .ok (.getfield 373, 3) := by decide +kernel
theorem dX14_end_40 : decode prog_13_method_88_code 40 = .ok (.ireturn, 1) := by decide +kernel
theorem dX14_run_0 : decode prog_13_method_89_code 0 = .ok (.aload_n 0, 1) := by decide +kernel
theorem dX14_run_1 : decode prog_13_method_89_code 1 = .ok (.getfield 318, 3) := by decide +kernel
theorem dX14_run_4 : decode prog_13_method_89_code 4 = .ok (.ifCond .eq 5, 3) := by decide +kernel
theorem dX14_run_7 : decode prog_13_method_89_code 7 = .ok (.iconst (-1), 1) := by decide +kernel
theorem dX14_run_8 : decode prog_13_method_89_code 8 = .ok (.ireturn, 1) := by decide +kernel
theorem dX14_run_9 : decode prog_13_method_89_code 9 = .ok (.aload_n 0, 1) := by decide +kernel
theorem dX14_run_10 : decode prog_13_method_89_code 10 = .ok (.iconst 0, 1) := by decide +kernel
theorem dX14_run_11 : decode prog_13_method_89_code 11 = .ok (.putfield 362, 3) := by decide +kernel
theorem dX14_run_14 : decode prog_13_method_89_code 14 = .ok (.aload_n 0, 1) := by decide +kernel
theorem dX14_run_15 : decode prog_13_method_89_code 15 = .ok (.iconst (-1), 1) := by decide +kernel
theorem dX14_run_16 : decode prog_13_method_89_code 16 = .ok (.putfield 370, 3) := by decide +kernel
theorem dX14_run_19 : decode prog_13_method_89_code 19 = .ok (.aload_n 0, 1) := by decide +kernel
theorem dX14_run_20 : decode prog_13_method_89_code 20 = .ok (.iconst 0, 1) := by decide +kernel
theorem dX14_run_21 : decode prog_13_method_89_code 21 = .ok (.putfield 365, 3) := by decide +kernel
theorem dX14_run_24 : decode prog_13_method_89_code 24 = .ok (.aload_n 0, 1) := by decide +kernel
theorem dX14_run_25 : decode prog_13_method_89_code 25 = .ok (.iconst 0, 1) := by decide +kernel
theorem dX14_run_26 : decode prog_13_method_89_code 26 = .ok (.putfield 379, 3) := by decide +kernel
theorem dX14_run_29 : decode prog_13_method_89_code 29 = .ok (.iconst 0, 1) := by decide +kernel
theorem dX14_run_30 : decode prog_13_method_89_code 30 = .ok (.istore_n 1, 1) := by decide +kernel
theorem dX14_run_31 : decode prog_13_method_89_code 31 = .ok (.aload_n 0, 1) := by decide +kernel
theorem dX14_run_32 : decode prog_13_method_89_code 32 = .ok (.invokevirtual 423, 3) := by decide +kernel
theorem dX14_run_35 : decode prog_13_method_89_code 35 = .ok (.aload_n 0, 1) := by decide +kernel
theorem dX14_run_36 : decode prog_13_method_89_code 36 = .ok (.getfield 385, 3) := by decide +kernel
theorem dX14_run_39 : decode prog_13_method_89_code 39 = .ok (.ifCond .eq 46, 3) := by decide +kernel
theorem dX14_run_42 : decode prog_13_method_89_code 42 = .ok (.aload_n 0, 1) := by decide +kernel
theorem dX14_run_43 : decode prog_13_method_89_code 43 = .ok (.getfield 365, 3) := by decide +kernel
theorem dX14_run_46 : decode prog_13_method_89_code 46 = .ok (.ifCond .ne 39, 3) := by decide +kernel
theorem dX14_run_49 : decode prog_13_method_89_code 49 = .ok (.aload_n 0, 1) := by decide +kernel
theorem dX14_run_50 : decode prog_13_method_89_code 50 = .ok (.getfield 318, 3) := by decide +kernel
theorem dX14_run_53 : decode prog_13_method_89_code 53 = .ok (.ifCond .ne 32, 3) := by decide +kernel
theorem dX14_run_56 : decode prog_13_method_89_code 56 = .ok (.aload_n 0, 1) := by decide +kernel
theorem dX14_run_57 : decode prog_13_method_89_code 57 = .ok (.invokevirtual 647, 3) := by decide +kernel
theorem dX14_run_60 : decode prog_13_method_89_code 60 = .ok (.iload_n 1, 1) := by decide +kernel
theorem dX14_run_61 : decode prog_13_method_89_code 61 = .ok (.aload_n 0, 1) := by decide +kernel
theorem dX14_run_62 : decode prog_13_method_89_code 62 = .ok (.getfield 365, 3) := by decide +kernel
theorem dX14_run_65 : decode prog_13_method_89_code 65 = .ok (.ifCond .ne 10, 3) := by decide +kernel
theorem dX14_run_68 : decode prog_13_method_89_code 68 = .ok (.aload_n 0, 1) := by decide +kernel
theorem dX14_run_69 : decode prog_13_method_89_code 69 = .ok (.getfield 318, 3) := by decide +kernel
theorem dX14_run_72 : decode prog_13_method_89_code 72 = .ok (.ifCond .eq 7, 3) := by decide +kernel
theorem dX14_run_75 : decode prog_13_method_89_code 75 = .ok (.iconst 0, 1) := by decide +kernel
theorem dX14_run_76 : decode prog_13_method_89_code 76 = .ok (.goto 4, 3) := by decide +kernel
theorem dX14_run_79 : decode prog_13_method_89_code 79 = .ok (.iconst 1, 1) := by decide +kernel
theorem dX14_run_80 : decode prog_13_method_89_code 80 = .ok (.iadd, 1) := by decide +kernel
theorem dX14_run_81 : decode prog_13_method_89_code 81 = .ok (.istore_n 1, 1) := by decide +kernel
theorem dX14_run_82 : decode prog_13_method_89_code 82 = .ok (.goto (-47), 3) := by decide +kernel
theorem dX14_run_85 : decode prog_13_method_89_code 85 = .ok (.aload_n 0, 1) := by decide +kernel
theorem dX14_run_86 : decode prog_13_method_89_code 86 = .ok (.iconst 0, 1) := by decide +kernel
theorem dX14_run_87 : decode prog_13_method_89_code 87 = .ok (.putfield 373, 3) := by decide +kernel
theorem dX14_run_90 : decode prog_13_method_89_code 90 = .ok (.iload_n 1, 1) := by decide +kernel
theorem dX14_run_91 : decode prog_13_method_89_code 91 = .ok (.ireturn, 1) := by decide +kernel
theorem dX14_wrong_0 : decode prog_13_method_90_code 0 = .ok (.aload_n 0, 1) := by decide +kernel
theorem dX14_wrong_1 : decode prog_13_method_90_code 1 = .ok (.getfield 370, 3) := by decide +kernel
theorem dX14_wrong_4 : decode prog_13_method_90_code 4 = .ok (.ireturn, 1) := by decide +kernel
theorem dX14_outputs_0 : decode prog_13_method_91_code 0 = .ok (.aload_n 0, 1) := by decide +kernel
theorem dX14_outputs_1 : decode prog_13_method_91_code 1 = .ok (.getfield 362, 3) := by decide +kernel
theorem dX14_outputs_4 : decode prog_13_method_91_code 4 = .ok (.ireturn, 1) := by decide +kernel
theorem dX14_out_0 : decode prog_13_method_92_code 0 = .ok (.iload_n 1, 1) := by decide +kernel
theorem dX14_out_1 : decode prog_13_method_92_code 1 = .ok (.ifCond .lt 20, 3) := by decide +kernel
theorem dX14_out_4 : decode prog_13_method_92_code 4 = .ok (.iload_n 1, 1) := by decide +kernel
theorem dX14_out_5 : decode prog_13_method_92_code 5 = .ok (.aload_n 0, 1) := by decide +kernel
theorem dX14_out_6 : decode prog_13_method_92_code 6 = .ok (.getfield 362, 3) := by decide +kernel
theorem dX14_out_9 : decode prog_13_method_92_code 9 = .ok (.if_icmp .ge 12, 3) := by decide +kernel
theorem dX14_out_12 : decode prog_13_method_92_code 12 = .ok (.aload_n 0, 1) := by decide +kernel
theorem dX14_out_13 : decode prog_13_method_92_code 13 = .ok (.getfield 359, 3) := by decide +kernel
theorem dX14_out_16 : decode prog_13_method_92_code 16 = .ok (.iload_n 1, 1) := by decide +kernel
theorem dX14_out_17 : decode prog_13_method_92_code 17 = .ok (.iaload, 1) := by decide +kernel
theorem dX14_out_18 : decode prog_13_method_92_code 18 = .ok (.goto 4, 3) := by decide +kernel
theorem dX14_out_21 : decode prog_13_method_92_code 21 = .ok (.iconst 0, 1) := by decide +kernel
theorem dX14_out_22 : decode prog_13_method_92_code 22 = .ok (.ireturn, 1) := by decide +kernel
theorem dX14_crash_0 : decode prog_13_method_93_code 0 = .ok (.iload_n 1, 1) := by decide +kernel
theorem dX14_crash_1 : decode prog_13_method_93_code 1 = .ok (.ifCond .lt 38, 3) := by decide +kernel
theorem dX14_crash_4 : decode prog_13_method_93_code 4 = .ok (.iload_n 1, 1) := by decide +kernel
theorem dX14_crash_5 : decode prog_13_method_93_code 5 = .ok (.iconst 1, 1) := by decide +kernel
theorem dX14_crash_6 : decode prog_13_method_93_code 6 = .ok (.if_icmp .gt 33, 3) := by decide +kernel
theorem dX14_crash_9 : decode prog_13_method_93_code 9 = .ok (.iload_n 2, 1) := by decide +kernel
theorem dX14_crash_10 : decode prog_13_method_93_code 10 = .ok (.iconst 1, 1) := by decide +kernel
theorem dX14_crash_11 : decode prog_13_method_93_code 11 = .ok (.if_icmp .lt 28, 3) := by decide +kernel
theorem dX14_crash_14 : decode prog_13_method_93_code 14 = .ok (.iload_n 2, 1) := by decide +kernel
theorem dX14_crash_15 : decode prog_13_method_93_code 15 = .ok (.sipush 1000, 3) := by decide +kernel
theorem dX14_crash_18 : decode prog_13_method_93_code 18 = .ok (.if_icmp .gt 21, 3) := by decide +kernel
theorem dX14_crash_21 : decode prog_13_method_93_code 21 = .ok (.iload_n 3, 1) := by decide +kernel
theorem dX14_crash_22 : decode prog_13_method_93_code 22 = .ok (.ifCond .lt 17, 3) := by decide +kernel
theorem dX14_crash_25 : decode prog_13_method_93_code 25 = .ok (.iload_n 3, 1) := by decide +kernel
theorem dX14_crash_26 : decode prog_13_method_93_code 26 = .ok (.sipush 200, 3) := by decide +kernel
theorem dX14_crash_29 : decode prog_13_method_93_code 29 = .ok (.if_icmp .gt 10, 3) := by decide +kernel
theorem dX14_crash_32 : decode prog_13_method_93_code 32 = .ok (.aload_n 0, 1) := by decide +kernel
theorem dX14_crash_33 : decode prog_13_method_93_code 33 = .ok (.getfield 318, 3) := by decide +kernel
theorem dX14_crash_36 : decode prog_13_method_93_code 36 = .ok (.ifCond .eq 5, 3) := by decide +kernel
theorem dX14_crash_39 : decode prog_13_method_93_code 39 = .ok (.iconst 0, 1) := by decide +kernel
theorem dX14_crash_40 : decode prog_13_method_93_code 40 = .ok (.ireturn, 1) := by decide +kernel
theorem dX14_crash_41 : decode prog_13_method_93_code 41 = .ok (.aload_n 0, 1) := by decide +kernel
theorem dX14_crash_42 : decode prog_13_method_93_code 42 = .ok (.iload_n 1, 1) := by decide +kernel
theorem dX14_crash_43 : decode prog_13_method_93_code 43 = .ok (.putfield 323, 3) := by decide +kernel
theorem dX14_crash_46 : decode prog_13_method_93_code 46 = .ok (.aload_n 0, 1) := by decide +kernel
theorem dX14_crash_47 : decode prog_13_method_93_code 47 = .ok (.iload_n 2, 1) := by decide +kernel
theorem dX14_crash_48 : decode prog_13_method_93_code 48 = .ok (.putfield 326, 3) := by decide +kernel
theorem dX14_crash_51 : decode prog_13_method_93_code 51 = .ok (.iconst 1, 1) := by decide +kernel
theorem dX14_crash_52 : decode prog_13_method_93_code 52 = .ok (.ireturn, 1) := by decide +kernel
theorem dX14_recover_0 : decode prog_13_method_94_code 0 = .ok (.aload_n 0, 1) := by decide +kernel
theorem dX14_recover_1 : decode prog_13_method_94_code 1 = .ok (.getfield 351, 3) := by decide +kernel
theorem dX14_recover_4 : decode prog_13_method_94_code 4 = .ok (.aload_n 0, 1) := by decide +kernel
theorem dX14_recover_5 : decode prog_13_method_94_code 5 = .ok (.getfield 347, 3) := by decide +kernel
theorem dX14_recover_8 : decode prog_13_method_94_code 8 = .ok (.invokevirtual 354, 3) := by decide +kernel
theorem dX14_recover_11 : decode prog_13_method_94_code 11 = .ok (.aload_n 0, 1) := by decide +kernel
theorem dX14_recover_12 : decode prog_13_method_94_code 12 = .ok (.iconst 0, 1) := by decide +kernel
theorem dX14_recover_13 : decode prog_13_method_94_code 13 = .ok (.putfield 321, 3) := by decide +kernel
theorem dX14_recover_16 : decode prog_13_method_94_code 16 = .ok (.aload_n 0, 1) := by decide +kernel
theorem dX14_recover_17 : decode prog_13_method_94_code 17 = .ok (.iconst 0, 1) := by decide +kernel
theorem dX14_recover_18 : decode prog_13_method_94_code 18 = .ok (.putfield 318, 3) := by decide +kernel
theorem dX14_recover_21 : decode prog_13_method_94_code 21 = .ok (.aload_n 0, 1) := by decide +kernel
theorem dX14_recover_22 : decode prog_13_method_94_code 22 = .ok (.iconst 0, 1) := by decide +kernel
theorem dX14_recover_23 : decode prog_13_method_94_code 23 = .ok (.putfield 338, 3) := by decide +kernel
theorem dX14_recover_26 : decode prog_13_method_94_code 26 = .ok (.aload_n 0, 1) := by decide +kernel
theorem dX14_recover_27 : decode prog_13_method_94_code 27 = .ok (.iconst (-1), 1) := by decide +kernel
theorem dX14_recover_28 : decode prog_13_method_94_code 28 = .ok (.putfield 323, 3) := by decide +kernel
theorem dX14_recover_31 : decode prog_13_method_94_code 31 = .ok (.aload_n 0, 1) := by decide +kernel
theorem dX14_recover_32 : decode prog_13_method_94_code 32 = .ok (.getfield 351, 3) := by decide +kernel
theorem dX14_recover_35 : decode prog_13_method_94_code 35 = .ok (.getfield 581, 3) := by decide +kernel
theorem dX14_recover_38 : decode prog_13_method_94_code 38 = .ok (.ireturn, 1) := by decide +kernel
theorem dX14_isDown_0 : decode prog_13_method_95_code 0 = .ok (.aload_n 0, 1) := by decide +kernel
theorem dX14_isDown_1 : decode prog_13_method_95_code 1 = .ok (.getfield 318, 3) := by decide +kernel
theorem dX14_isDown_4 : decode prog_13_method_95_code 4 = .ok (.ireturn, 1) := by decide +kernel
theorem dX14_isOpen_0 : decode prog_13_method_96_code 0 = .ok (.aload_n 0, 1) := by decide +kernel
theorem dX14_isOpen_1 : decode prog_13_method_96_code 1 = .ok (.getfield 321, 3) := by decide +kernel
theorem dX14_isOpen_4 : decode prog_13_method_96_code 4 = .ok (.ireturn, 1) := by decide +kernel
theorem dX14_live_0 : decode prog_13_method_97_code 0 = .ok (.aload_n 0, 1) := by decide +kernel
theorem dX14_live_1 : decode prog_13_method_97_code 1 = .ok (.getfield 318, 3) := by decide +kernel
theorem dX14_live_4 : decode prog_13_method_97_code 4 = .ok (.ifCond .eq 7, 3) := by decide +kernel
theorem dX14_live_7 : decode prog_13_method_97_code 7 = .ok (.iconst (-1), 1) := by decide +kernel
theorem dX14_live_8 : decode prog_13_method_97_code 8 = .ok (.goto 10, 3) := by decide +kernel
theorem dX14_live_11 : decode prog_13_method_97_code 11 = .ok (.aload_n 0, 1) := by decide +kernel
theorem dX14_live_12 : decode prog_13_method_97_code 12 = .ok (.getfield 351, 3) := by decide +kernel
theorem dX14_live_15 : decode prog_13_method_97_code 15 = .ok (.getfield 581, 3) := by decide +kernel
theorem dX14_live_18 : decode prog_13_method_97_code 18 = .ok (.ireturn, 1) := by decide +kernel
theorem dX14_idAt_0 : decode prog_13_method_98_code 0 = .ok (.aload_n 0, 1) := by decide +kernel
theorem dX14_idAt_1 : decode prog_13_method_98_code 1 = .ok (.getfield 318, 3) := by decide +kernel
theorem dX14_idAt_4 : decode prog_13_method_98_code 4 = .ok (.ifCond .ne 18, 3) := by decide +kernel
theorem dX14_idAt_7 : decode prog_13_method_98_code 7 = .ok (.iload_n 1, 1) := by decide +kernel
theorem dX14_idAt_8 : decode prog_13_method_98_code 8 = .ok (.ifCond .lt 14, 3) := by decide +kernel
theorem dX14_idAt_11 : decode prog_13_method_98_code 11 = .ok (.iload_n 1, 1) := by decide +kernel
theorem dX14_idAt_12 : decode prog_13_method_98_code 12 = .ok (.aload_n 0, 1) := by decide +kernel
theorem dX14_idAt_13 : decode prog_13_method_98_code 13 = .ok (.getfield 351, 3) := by decide +kernel
theorem dX14_idAt_16 : decode prog_13_method_98_code 16 = .ok (.getfield 581, 3) := by decide +kernel
theorem dX14_idAt_19 : decode prog_13_method_98_code 19 = .ok (.if_icmp .lt 7, 3) := by decide +kernel
theorem dX14_idAt_22 : decode prog_13_method_98_code 22 = .ok (.iconst (-1), 1) := by decide +kernel
theorem dX14_idAt_23 : decode prog_13_method_98_code 23 = .ok (.goto 15, 3) := by decide +kernel
theorem dX14_idAt_26 : decode prog_13_method_98_code 26 = .ok (.aload_n 0, 1) := by decide +kernel
theorem dX14_idAt_27 : decode prog_13_method_98_code 27 = .ok (.getfield 351, 3) := by decide +kernel
theorem dX14_idAt_30 : decode prog_13_method_98_code 30 = .ok (.getfield 596, 3) := by decide +kernel
theorem dX14_idAt_33 : decode prog_13_method_98_code 33 = .ok (.iload_n 1, 1) := by decide +kernel
theorem dX14_idAt_34 : decode prog_13_method_98_code 34 = .ok (.aaload, 1) := by decide +kernel
theorem dX14_idAt_35 : decode prog_13_method_98_code 35 = .ok (.getfield 627, 3) := by decide +kernel
theorem dX14_idAt_38 : decode prog_13_method_98_code 38 = .ok (.ireturn, 1) := by decide +kernel
theorem dX14_standing_0 : decode prog_13_method_99_code 0 = .ok (.aload_n 0, 1) := by decide +kernel
theorem dX14_standing_1 : decode prog_13_method_99_code 1 = .ok (.getfield 318, 3) := by decide +kernel
theorem dX14_standing_4 : decode prog_13_method_99_code 4 = .ok (.ifCond .eq 7, 3) := by decide +kernel
theorem dX14_standing_7 : decode prog_13_method_99_code 7 = .ok (.iconst (-1), 1) := by decide +kernel
theorem dX14_standing_8 : decode prog_13_method_99_code 8 = .ok (.goto 11, 3) := by decide +kernel
theorem dX14_standing_11 : decode prog_13_method_99_code 11 = .ok (.aload_n 0, 1) := by decide +kernel
theorem dX14_standing_12 : decode prog_13_method_99_code 12 = .ok (.getfield 351, 3) := by decide +kernel
theorem dX14_standing_15 : decode prog_13_method_99_code 15 = .ok (.iload_n 1, 1) := by decide +kernel
theorem dX14_standing_16 : decode prog_13_method_99_code 16 = .ok (.invokevirtual 573, 3) := by decide +kernel
theorem dX14_standing_19 : decode prog_13_method_99_code 19 = .ok (.ireturn, 1) := by decide +kernel
theorem dX14_kindOf_0 : decode prog_13_method_100_code 0 = .ok (.aload_n 0, 1) := by decide +kernel
theorem dX14_kindOf_1 : decode prog_13_method_100_code 1 = .ok (.iload_n 1, 1) := by decide +kernel
theorem dX14_kindOf_2 : decode prog_13_method_100_code 2 = .ok (.invokevirtual 650, 3) := by decide +kernel
theorem dX14_kindOf_5 : decode prog_13_method_100_code 5 = .ok (.istore_n 2, 1) := by decide +kernel
theorem dX14_kindOf_6 : decode prog_13_method_100_code 6 = .ok (.iload_n 2, 1) := by decide +kernel
theorem dX14_kindOf_7 : decode prog_13_method_100_code 7 = .ok (.ifCond .ge 7, 3) := by decide +kernel
theorem dX14_kindOf_10 : decode prog_13_method_100_code 10 = .ok (.iconst (-1), 1) := by decide +kernel
theorem dX14_kindOf_11 : decode prog_13_method_100_code 11 = .ok (.goto 15, 3) := by decide +kernel
theorem dX14_kindOf_14 : decode prog_13_method_100_code 14 = .ok (.aload_n 0, 1) := by decide +kernel
theorem dX14_kindOf_15 : decode prog_13_method_100_code 15 = .ok (.getfield 351, 3) := by decide +kernel
theorem dX14_kindOf_18 : decode prog_13_method_100_code 18 = .ok (.getfield 596, 3) := by decide +kernel
theorem dX14_kindOf_21 : decode prog_13_method_100_code 21 = .ok (.iload_n 2, 1) := by decide +kernel
theorem dX14_kindOf_22 : decode prog_13_method_100_code 22 = .ok (.aaload, 1) := by decide +kernel
theorem dX14_kindOf_23 : decode prog_13_method_100_code 23 = .ok (.getfield 75, 3) := by decide +kernel
theorem dX14_kindOf_26 : decode prog_13_method_100_code 26 = .ok (.ireturn, 1) := by decide +kernel
theorem dX14_places_0 : decode prog_13_method_101_code 0 = .ok (.aload_n 0, 1) := by decide +kernel
theorem dX14_places_1 : decode prog_13_method_101_code 1 = .ok (.iload_n 1, 1) := by decide +kernel
theorem dX14_places_2 : decode prog_13_method_101_code 2 = .ok (.invokevirtual 650, 3) := by decide +kernel
theorem dX14_places_5 : decode prog_13_method_101_code 5 = .ok (.istore_n 2, 1) := by decide +kernel
theorem dX14_places_6 : decode prog_13_method_101_code 6 = .ok (.iload_n 2, 1) := by decide +kernel
theorem dX14_places_7 : decode prog_13_method_101_code 7 = .ok (.ifCond .ge 7, 3) := by decide +kernel
theorem dX14_places_10 : decode prog_13_method_101_code 10 = .ok (.iconst (-1), 1) := by decide +kernel
theorem dX14_places_11 : decode prog_13_method_101_code 11 = .ok (.goto 15, 3) := by decide +kernel
theorem dX14_places_14 : decode prog_13_method_101_code 14 = .ok (.aload_n 0, 1) := by decide +kernel
theorem dX14_places_15 : decode prog_13_method_101_code 15 = .ok (.getfield 351, 3) := by decide +kernel
theorem dX14_places_18 : decode prog_13_method_101_code 18 = .ok (.getfield 596, 3) := by decide +kernel
theorem dX14_places_21 : decode prog_13_method_101_code 21 = .ok (.iload_n 2, 1) := by decide +kernel
theorem dX14_places_22 : decode prog_13_method_101_code 22 = .ok (.aaload, 1) := by decide +kernel
theorem dX14_places_23 : decode prog_13_method_101_code 23 = .ok (.getfield 79, 3) := by decide +kernel
theorem dX14_places_26 : decode prog_13_method_101_code 26 = .ok (.ireturn, 1) := by decide +kernel
theorem dX14_rings_0 : decode prog_13_method_102_code 0 = .ok (.aload_n 0, 1) := by decide +kernel
theorem dX14_rings_1 : decode prog_13_method_102_code 1 = .ok (.iload_n 1, 1) := by decide +kernel
theorem dX14_rings_2 : decode prog_13_method_102_code 2 = .ok (.invokevirtual 650, 3) := by decide +kernel
theorem dX14_rings_5 : decode prog_13_method_102_code 5 = .ok (.istore_n 2, 1) := by decide +kernel
theorem dX14_rings_6 : decode prog_13_method_102_code 6 = .ok (.iload_n 2, 1) := by decide +kernel
theorem dX14_rings_7 : decode prog_13_method_102_code 7 = .ok (.ifCond .ge 7, 3) := by decide +kernel
theorem dX14_rings_10 : decode prog_13_method_102_code 10 = .ok (.iconst (-1), 1) := by decide +kernel
theorem dX14_rings_11 : decode prog_13_method_102_code 11 = .ok (.goto 15, 3) := by decide +kernel
theorem dX14_rings_14 : decode prog_13_method_102_code 14 = .ok (.aload_n 0, 1) := by decide +kernel
theorem dX14_rings_15 : decode prog_13_method_102_code 15 = .ok (.getfield 351, 3) := by decide +kernel
theorem dX14_rings_18 : decode prog_13_method_102_code 18 = .ok (.getfield 596, 3) := by decide +kernel
theorem dX14_rings_21 : decode prog_13_method_102_code 21 = .ok (.iload_n 2, 1) := by decide +kernel
theorem dX14_rings_22 : decode prog_13_method_102_code 22 = .ok (.aaload, 1) := by decide +kernel
theorem dX14_rings_23 : decode prog_13_method_102_code 23 = .ok (.getfield 180, 3) := by decide +kernel
theorem dX14_rings_26 : decode prog_13_method_102_code 26 = .ok (.ireturn, 1) := by decide +kernel
theorem dX14_at_0 : decode prog_13_method_103_code 0 = .ok (.aload_n 0, 1) := by decide +kernel
theorem dX14_at_1 : decode prog_13_method_103_code 1 = .ok (.iload_n 1, 1) := by decide +kernel
theorem dX14_at_2 : decode prog_13_method_103_code 2 = .ok (.invokevirtual 650, 3) := by decide +kernel
theorem dX14_at_5 : decode prog_13_method_103_code 5 = .ok (.istore 4, 2) := by decide +kernel
theorem dX14_at_7 : decode prog_13_method_103_code 7 = .ok (.iload 4, 2) := by decide +kernel
theorem dX14_at_9 : decode prog_13_method_103_code 9 = .ok (.ifCond .lt 33, 3) := by decide +kernel
theorem dX14_at_12 : decode prog_13_method_103_code 12 = .ok (.iload_n 2, 1) := by decide +kernel
theorem dX14_at_13 : decode prog_13_method_103_code 13 = .ok (.ifCond .lt 29, 3) := by decide +kernel
theorem dX14_at_16 : decode prog_13_method_103_code 16 = .ok (.iload_n 2, 1) := by decide +kernel
theorem dX14_at_17 : decode prog_13_method_103_code 17 = .ok (.aload_n 0, 1) := by decide +kernel
theorem dX14_at_18 : decode prog_13_method_103_code 18 = .ok (.getfield 351, 3) := by decide +kernel
theorem dX14_at_21 : decode prog_13_method_103_code 21 = .ok (.getfield 596, 3) := by decide +kernel
theorem dX14_at_24 : decode prog_13_method_103_code 24 = .ok (.iload 4, 2) := by decide +kernel
theorem dX14_at_26 : decode prog_13_method_103_code 26 = .ok (.aaload, 1) := by decide +kernel
theorem dX14_at_27 : decode prog_13_method_103_code 27 = .ok (.getfield 79, 3) := by decide +kernel
theorem dX14_at_30 : decode prog_13_method_103_code 30 = .ok (.if_icmp .ge 12, 3) := by decide +kernel
theorem dX14_at_33 : decode prog_13_method_103_code 33 = .ok (.iload_n 3, 1) := by decide +kernel
theorem dX14_at_34 : decode prog_13_method_103_code 34 = .ok (.ifCond .lt 8, 3) := by decide +kernel
theorem dX14_at_37 : decode prog_13_method_103_code 37 = .ok (.iload_n 3, 1) := by decide +kernel
theorem dX14_at_38 : decode prog_13_method_103_code 38 = .ok (.iconst 1, 1) := by decide +kernel
theorem dX14_at_39 : decode prog_13_method_103_code 39 = .ok (.if_icmp .le 5, 3) := by decide +kernel
theorem dX14_at_42 : decode prog_13_method_103_code 42 = .ok (.iconst 0, 1) := by decide +kernel
theorem dX14_at_43 : decode prog_13_method_103_code 43 = .ok (.ireturn, 1) := by decide +kernel
theorem dX14_at_44 : decode prog_13_method_103_code 44 = .ok (.iload_n 3, 1) := by decide +kernel
theorem dX14_at_45 : decode prog_13_method_103_code 45 = .ok (.ifCond .ne 21, 3) := by decide +kernel
theorem dX14_at_48 : decode prog_13_method_103_code 48 = .ok (.aload_n 0, 1) := by decide +kernel
theorem dX14_at_49 : decode prog_13_method_103_code 49 = .ok (.getfield 351, 3) := by decide +kernel
theorem dX14_at_52 : decode prog_13_method_103_code 52 = .ok (.getfield 596, 3) := by decide +kernel
theorem dX14_at_55 : decode prog_13_method_103_code 55 = .ok (.iload 4, 2) := by decide +kernel
theorem dX14_at_57 : decode prog_13_method_103_code 57 = .ok (.aaload, 1) := by decide +kernel
theorem dX14_at_58 : decode prog_13_method_103_code 58 = .ok (.getfield 30, 3) := by decide +kernel
theorem dX14_at_61 : decode prog_13_method_103_code 61 = .ok (.iload_n 2, 1) := by decide +kernel
theorem dX14_at_62 : decode prog_13_method_103_code 62 = .ok (.iaload, 1) := by decide +kernel
theorem dX14_at_63 : decode prog_13_method_103_code 63 = .ok (.goto 18, 3) := by decide +kernel
theorem dX14_at_66 : decode prog_13_method_103_code 66 = .ok (.aload_n 0, 1) := by decide +kernel
theorem dX14_at_67 : decode prog_13_method_103_code 67 = .ok (.getfield 351, 3) := by decide +kernel
theorem dX14_at_70 : decode prog_13_method_103_code 70 = .ok (.getfield 596, 3) := by decide +kernel
theorem dX14_at_73 : decode prog_13_method_103_code 73 = .ok (.iload 4, 2) := by decide +kernel
theorem dX14_at_75 : decode prog_13_method_103_code 75 = .ok (.aaload, 1) := by decide +kernel
theorem dX14_at_76 : decode prog_13_method_103_code 76 = .ok (.getfield 36, 3) := by decide +kernel
theorem dX14_at_79 : decode prog_13_method_103_code 79 = .ok (.iload_n 2, 1) := by decide +kernel
theorem dX14_at_80 : decode prog_13_method_103_code 80 = .ok (.iaload, 1) := by decide +kernel
theorem dX14_at_81 : decode prog_13_method_103_code 81 = .ok (.ireturn, 1) := by decide +kernel
theorem dX14_relate_0 : decode prog_13_method_104_code 0 = .ok (.aload_n 0, 1) := by decide +kernel
theorem dX14_relate_1 : decode prog_13_method_104_code 1 = .ok (.iload_n 2, 1) := by decide +kernel
theorem dX14_relate_2 : decode prog_13_method_104_code 2 = .ok (.invokevirtual 650, 3) := by decide +kernel
theorem dX14_relate_5 : decode prog_13_method_104_code 5 = .ok (.istore 4, 2) := by decide +kernel
theorem dX14_relate_7 : decode prog_13_method_104_code 7 = .ok (.aload_n 0, 1) := by decide +kernel
theorem dX14_relate_8 : decode prog_13_method_104_code 8 = .ok (.iload_n 3, 1) := by decide +kernel
theorem dX14_relate_9 : decode prog_13_method_104_code 9 = .ok (.invokevirtual 650, 3) := by decide +kernel
theorem dX14_relate_12 : decode prog_13_method_104_code 12 = .ok (.istore 5, 2) := by decide +kernel
theorem dX14_relate_14 : decode prog_13_method_104_code 14 = .ok (.iload 4, 2) := by decide +kernel
theorem dX14_relate_16 : decode prog_13_method_104_code 16 = .ok (.ifCond .lt 17, 3) := by decide +kernel
theorem dX14_relate_19 : decode prog_13_method_104_code 19 = .ok (.iload 5, 2) := by decide +kernel
theorem dX14_relate_21 : decode prog_13_method_104_code 21 = .ok (.ifCond .lt 12, 3) := by decide +kernel
theorem dX14_relate_24 : decode prog_13_method_104_code 24 = .ok (.iload_n 1, 1) := by decide +kernel
theorem dX14_relate_25 : decode prog_13_method_104_code 25 = .ok (.ifCond .lt 8, 3) := by decide +kernel
theorem dX14_relate_28 : decode prog_13_method_104_code 28 = .ok (.iload_n 1, 1) := by decide +kernel
theorem dX14_relate_29 : decode prog_13_method_104_code 29 = .ok (.iconst 4, 1) := by decide +kernel
theorem dX14_relate_30 : decode prog_13_method_104_code 30 = .ok (.if_icmp .le 5, 3) := by decide +kernel
theorem dX14_relate_33 : decode prog_13_method_104_code 33 = .ok (.iconst (-1), 1) := by decide +kernel
theorem dX14_relate_34 : decode prog_13_method_104_code 34 = .ok (.ireturn, 1) := by decide +kernel
theorem dX14_relate_35 : decode prog_13_method_104_code 35 = .ok (.aload_n 0, 1) := by decide +kernel
theorem dX14_relate_36 : decode prog_13_method_104_code 36 = .ok (.iload_n 1, 1) := by decide +kernel
theorem dX14_relate_37 : decode prog_13_method_104_code 37 = .ok (.aload_n 0, 1) := by decide +kernel
theorem dX14_relate_38 : decode prog_13_method_104_code 38 = .ok (.getfield 351, 3) := by decide +kernel
theorem dX14_relate_41 : decode prog_13_method_104_code 41 = .ok (.getfield 596, 3) := by decide +kernel
theorem dX14_relate_44 : decode prog_13_method_104_code 44 = .ok (.iload 4, 2) := by decide +kernel
theorem dX14_relate_46 : decode prog_13_method_104_code 46 = .ok (.aaload, 1) := by decide +kernel
theorem dX14_relate_47 : decode prog_13_method_104_code 47 = .ok (.aload_n 0, 1) := by decide +kernel
theorem dX14_relate_48 : decode prog_13_method_104_code 48 = .ok (.getfield 351, 3) := by decide +kernel
theorem dX14_relate_51 : decode prog_13_method_104_code 51 = .ok (.getfield 596, 3) := by decide +kernel
theorem dX14_relate_54 : decode prog_13_method_104_code 54 = .ok (.iload 5, 2) := by decide +kernel
theorem dX14_relate_56 : decode prog_13_method_104_code 56 = .ok (.aaload, 1) := by decide +kernel
theorem dX14_relate_57 : decode prog_13_method_104_code 57 = .ok (.invokevirtual 623, 3) := by decide +kernel
theorem dX14_relate_60 : decode prog_13_method_104_code 60 = .ok (.ifCond .eq 7, 3) := by decide +kernel
theorem dX14_relate_63 : decode prog_13_method_104_code 63 = .ok (.iconst 1, 1) := by decide +kernel
theorem dX14_relate_64 : decode prog_13_method_104_code 64 = .ok (.goto 4, 3) := by decide +kernel
theorem dX14_relate_67 : decode prog_13_method_104_code 67 = .ok (.iconst 0, 1) := by decide +kernel
theorem dX14_relate_68 : decode prog_13_method_104_code 68 = .ok (.ireturn, 1) := by decide +kernel
theorem dX14_nearer_0 : decode prog_13_method_105_code 0 = .ok (.aload_n 0, 1) := by decide +kernel
theorem dX14_nearer_1 : decode prog_13_method_105_code 1 = .ok (.iload_n 1, 1) := by decide +kernel
theorem dX14_nearer_2 : decode prog_13_method_105_code 2 = .ok (.invokevirtual 650, 3) := by decide +kernel
theorem dX14_nearer_5 : decode prog_13_method_105_code 5 = .ok (.istore 5, 2) := by decide +kernel
theorem dX14_nearer_7 : decode prog_13_method_105_code 7 = .ok (.aload_n 0, 1) := by decide +kernel
theorem dX14_nearer_8 : decode prog_13_method_105_code 8 = .ok (.iload_n 2, 1) := by decide +kernel
theorem dX14_nearer_9 : decode prog_13_method_105_code 9 = .ok (.invokevirtual 650, 3) := by decide +kernel
theorem dX14_nearer_12 : decode prog_13_method_105_code 12 = .ok (.istore 6, 2) := by decide +kernel
theorem dX14_nearer_14 : decode prog_13_method_105_code 14 = .ok (.iload 5, 2) := by decide +kernel
theorem dX14_nearer_16 : decode prog_13_method_105_code 16 = .ok (.ifCond .lt 25, 3) := by decide +kernel
theorem dX14_nearer_19 : decode prog_13_method_105_code 19 = .ok (.iload 6, 2) := by decide +kernel
theorem dX14_nearer_21 : decode prog_13_method_105_code 21 = .ok (.ifCond .lt 20, 3) := by decide +kernel
theorem dX14_nearer_24 : decode prog_13_method_105_code 24 = .ok (.iload_n 3, 1) := by decide +kernel
theorem dX14_nearer_25 : decode prog_13_method_105_code 25 = .ok (.i2l, 1) := by decide +kernel
theorem dX14_nearer_26 : decode prog_13_method_105_code 26 = .ok (.invokestatic 600, 3) := by decide +kernel
theorem dX14_nearer_29 : decode prog_13_method_105_code 29 = .ok (.ifCond .eq 12, 3) := by decide +kernel
theorem dX14_nearer_32 : decode prog_13_method_105_code 32 = .ok (.iload 4, 2) := by decide +kernel
theorem dX14_nearer_34 : decode prog_13_method_105_code 34 = .ok (.i2l, 1) := by decide +kernel
theorem dX14_nearer_35 : decode prog_13_method_105_code 35 = .ok (.invokestatic 600, 3) := by decide +kernel
theorem dX14_nearer_38 : decode prog_13_method_105_code 38 = .ok (.ifCond .ne 6, 3) := by decide +kernel
theorem dX14_nearer_41 : decode prog_13_method_105_code 41 = .ok (.bipush (-2), 2) := by decide +kernel
theorem dX14_nearer_43 : decode prog_13_method_105_code 43 = .ok (.ireturn, 1) := by decide +kernel
theorem dX14_nearer_44 : decode prog_13_method_105_code 44 = .ok (.aload_n 0, 1) := by decide +kernel
theorem dX14_nearer_45 : decode prog_13_method_105_code 45 = .ok (.aload_n 0, 1) := by decide +kernel
theorem dX14_nearer_46 : decode prog_13_method_105_code 46 = .ok (.getfield 351, 3) := by decide +kernel
theorem dX14_nearer_49 : decode prog_13_method_105_code 49 = .ok (.getfield 596, 3) := by decide +kernel
theorem dX14_nearer_52 : decode prog_13_method_105_code 52 = .ok (.iload 5, 2) := by decide +kernel
theorem dX14_nearer_54 : decode prog_13_method_105_code 54 = .ok (.aaload, 1) := by decide +kernel
theorem dX14_nearer_55 : decode prog_13_method_105_code 55 = .ok (.iload_n 3, 1) := by decide +kernel
theorem dX14_nearer_56 : decode prog_13_method_105_code 56 = .ok (.iload 4, 2) := by decide +kernel
theorem dX14_nearer_58 : decode prog_13_method_105_code 58 = .ok (.aload_n 0, 1) := by decide +kernel
theorem dX14_nearer_59 : decode prog_13_method_105_code 59 = .ok (.getfield 464, 3) := by decide +kernel
theorem dX14_nearer_62 : decode prog_13_method_105_code 62 = .ok (.invokevirtual 636, 3) := by decide +kernel
theorem dX14_nearer_65 : decode prog_13_method_105_code 65 = .ok (.aload_n 0, 1) := by decide +kernel
theorem dX14_nearer_66 : decode prog_13_method_105_code 66 = .ok (.aload_n 0, 1) := by decide +kernel
theorem dX14_nearer_67 : decode prog_13_method_105_code 67 = .ok (.getfield 351, 3) := by decide +kernel
theorem dX14_nearer_70 : decode prog_13_method_105_code 70 = .ok (.getfield 596, 3) := by decide +kernel
theorem dX14_nearer_73 : decode prog_13_method_105_code 73 = .ok (.iload 6, 2) := by decide +kernel
theorem dX14_nearer_75 : decode prog_13_method_105_code 75 = .ok (.aaload, 1) := by decide +kernel
theorem dX14_nearer_76 : decode prog_13_method_105_code 76 = .ok (.iload_n 3, 1) := by decide +kernel
theorem dX14_nearer_77 : decode prog_13_method_105_code 77 = .ok (.iload 4, 2) := by decide +kernel
theorem dX14_nearer_79 : decode prog_13_method_105_code 79 = .ok (.aload_n 0, 1) := by decide +kernel
theorem dX14_nearer_80 : decode prog_13_method_105_code 80 = .ok (.getfield 467, 3) := by decide +kernel
theorem dX14_nearer_83 : decode prog_13_method_105_code 83 = .ok (.invokevirtual 636, 3) := by decide +kernel
theorem dX14_nearer_86 : decode prog_13_method_105_code 86 = .ok (.aload_n 0, 1) := by decide +kernel
theorem dX14_nearer_87 : decode prog_13_method_105_code 87 = .ok (.aload_n 0, 1) := by decide +kernel
theorem dX14_nearer_88 : decode prog_13_method_105_code 88 = .ok (.getfield 464, 3) := by decide +kernel
theorem dX14_nearer_91 : decode prog_13_method_105_code 91 = .ok (.aload_n 0, 1) := by decide +kernel
theorem dX14_nearer_92 : decode prog_13_method_105_code 92 = .ok (.getfield 467, 3) := by decide +kernel
theorem dX14_nearer_95 : decode prog_13_method_105_code 95 = .ok (.invokevirtual 315, 3) := by decide +kernel
theorem dX14_nearer_98 : decode prog_13_method_105_code 98 = .ok (.ireturn, 1) := by decide +kernel
theorem dX14_used_0 : decode prog_13_method_106_code 0 = .ok (.aload_n 0, 1) := by decide +kernel
theorem dX14_used_1 : decode prog_13_method_106_code 1 = .ok (.getfield 318, 3) := by decide +kernel
theorem dX14_used_4 : decode prog_13_method_106_code 4 = .ok (.ifCond .eq 7, 3) := by decide +kernel
theorem dX14_used_7 : decode prog_13_method_106_code 7 = .ok (.iconst (-1), 1) := by decide +kernel
theorem dX14_used_8 : decode prog_13_method_106_code 8 = .ok (.goto 7, 3) := by decide +kernel
theorem dX14_used_11 : decode prog_13_method_106_code 11 = .ok (.aload_n 0, 1) := by decide +kernel
theorem dX14_used_12 : decode prog_13_method_106_code 12 = .ok (.getfield 332, 3) := by decide +kernel
theorem dX14_used_15 : decode prog_13_method_106_code 15 = .ok (.ireturn, 1) := by decide +kernel
theorem dX14_saves_0 : decode prog_13_method_107_code 0 = .ok (.aload_n 0, 1) := by decide +kernel
theorem dX14_saves_1 : decode prog_13_method_107_code 1 = .ok (.getfield 335, 3) := by decide +kernel
theorem dX14_saves_4 : decode prog_13_method_107_code 4 = .ok (.ireturn, 1) := by decide +kernel
theorem dX14_flaws_0 : decode prog_13_method_108_code 0 = .ok (.iconst 0, 1) := by decide +kernel
theorem dX14_flaws_1 : decode prog_13_method_108_code 1 = .ok (.ireturn, 1) := by decide +kernel
theorem dJ9_max_7cf53_0 : decode prog_17_method_65_code 0 = .ok (.iload_n 0, 1) := by decide +kernel
theorem dJ9_max_7cf53_1 : decode prog_17_method_65_code 1 = .ok (.iload_n 1, 1) := by decide +kernel
theorem dJ9_max_7cf53_2 : decode prog_17_method_65_code 2 = .ok (.if_icmp .lt 7, 3) := by decide +kernel
theorem dJ9_max_7cf53_5 : decode prog_17_method_65_code 5 = .ok (.iload_n 0, 1) := by decide +kernel
theorem dJ9_max_7cf53_6 : decode prog_17_method_65_code 6 = .ok (.goto 4, 3) := by decide +kernel
theorem dJ9_max_7cf53_9 : decode prog_17_method_65_code 9 = .ok (.iload_n 1, 1) := by decide +kernel
theorem dJ9_max_7cf53_10 : decode prog_17_method_65_code 10 = .ok (.ireturn, 1) := by decide +kernel
theorem dJ9_max_f86c9_0 : decode prog_17_method_66_code 0 = .ok (.lload_n 0, 1) := by decide +kernel
theorem dJ9_max_f86c9_1 : decode prog_17_method_66_code 1 = .ok (.lload_n 2, 1) := by decide +kernel
theorem dJ9_max_f86c9_2 : decode prog_17_method_66_code 2 = .ok (.lcmp, 1) := by decide +kernel
theorem dJ9_max_f86c9_3 : decode prog_17_method_66_code 3 = .ok (.ifCond .lt 7, 3) := by decide +kernel
theorem dJ9_max_f86c9_6 : decode prog_17_method_66_code 6 = .ok (.lload_n 0, 1) := by decide +kernel
theorem dJ9_max_f86c9_7 : decode prog_17_method_66_code 7 = .ok (.goto 4, 3) := by decide +kernel
theorem dJ9_max_f86c9_10 : decode prog_17_method_66_code 10 = .ok (.lload_n 2, 1) := by decide +kernel
theorem dJ9_max_f86c9_11 : decode prog_17_method_66_code 11 = .ok (.lreturn, 1) := by decide +kernel
theorem dJ9_min_7cf53_0 : decode prog_17_method_69_code 0 = .ok (.iload_n 0, 1) := by decide +kernel
theorem dJ9_min_7cf53_1 : decode prog_17_method_69_code 1 = .ok (.iload_n 1, 1) := by decide +kernel
theorem dJ9_min_7cf53_2 : decode prog_17_method_69_code 2 = .ok (.if_icmp .gt 7, 3) := by decide +kernel
theorem dJ9_min_7cf53_5 : decode prog_17_method_69_code 5 = .ok (.iload_n 0, 1) := by decide +kernel
theorem dJ9_min_7cf53_6 : decode prog_17_method_69_code 6 = .ok (.goto 4, 3) := by decide +kernel
theorem dJ9_min_7cf53_9 : decode prog_17_method_69_code 9 = .ok (.iload_n 1, 1) := by decide +kernel
theorem dJ9_min_7cf53_10 : decode prog_17_method_69_code 10 = .ok (.ireturn, 1) := by decide +kernel
theorem dJ9_min_f86c9_0 : decode prog_17_method_70_code 0 = .ok (.lload_n 0, 1) := by decide +kernel
theorem dJ9_min_f86c9_1 : decode prog_17_method_70_code 1 = .ok (.lload_n 2, 1) := by decide +kernel
theorem dJ9_min_f86c9_2 : decode prog_17_method_70_code 2 = .ok (.lcmp, 1) := by decide +kernel
theorem dJ9_min_f86c9_3 : decode prog_17_method_70_code 3 = .ok (.ifCond .gt 7, 3) := by decide +kernel
theorem dJ9_min_f86c9_6 : decode prog_17_method_70_code 6 = .ok (.lload_n 0, 1) := by decide +kernel
theorem dJ9_min_f86c9_7 : decode prog_17_method_70_code 7 = .ok (.goto 4, 3) := by decide +kernel
theorem dJ9_min_f86c9_10 : decode prog_17_method_70_code 10 = .ok (.lload_n 2, 1) := by decide +kernel
theorem dJ9_min_f86c9_11 : decode prog_17_method_70_code 11 = .ok (.lreturn, 1) := by decide +kernel
theorem dJ0_length_8abf5_0 : decode prog_18_method_54_code 0 = .ok (.aload_n 0, 1) := by decide +kernel
theorem dJ0_length_8abf5_1 : decode prog_18_method_54_code 1 = .ok (.getfield 9, 3) := by decide +kernel
theorem dJ0_length_8abf5_4 : decode prog_18_method_54_code 4 = .ok (.arraylength, 1) := by decide +kernel
theorem dJ0_length_8abf5_5 : decode prog_18_method_54_code 5 = .ok (.aload_n 0, 1) := by decide +kernel
theorem dJ0_length_8abf5_6 : decode prog_18_method_54_code 6 = .ok (.invokevirtual 335, 3) := by decide +kernel
theorem dJ0_length_8abf5_9 : decode prog_18_method_54_code 9 = .ok (.ishr, 1) := by decide +kernel
theorem dJ0_length_8abf5_10 : decode prog_18_method_54_code 10 = .ok (.ireturn, 1) := by decide +kernel
theorem dJ0_charAt_5068e_0 : decode prog_18_method_56_code 0 = .ok (.aload_n 0, 1) := by decide +kernel
theorem dJ0_charAt_5068e_1 : decode prog_18_method_56_code 1 = .ok (.invokevirtual 492, 3) := by decide +kernel
theorem dJ0_charAt_5068e_4 : decode prog_18_method_56_code 4 = .ok (.ifCond .eq 12, 3) := by decide +kernel
theorem dJ0_charAt_5068e_7 : decode prog_18_method_56_code 7 = .ok (.aload_n 0, 1) := by decide +kernel
theorem dJ0_charAt_5068e_8 : decode prog_18_method_56_code 8 = .ok (.getfield 9, 3) := by decide +kernel
theorem dJ0_charAt_5068e_11 : decode prog_18_method_56_code 11 = .ok (.iload_n 1, 1) := by decide +kernel
theorem dJ0_charAt_5068e_12 : decode prog_18_method_56_code 12 = .ok (.invokestatic 495, 3) := by decide +kernel
theorem dJ0_charAt_5068e_15 : decode prog_18_method_56_code 15 = .ok (.ireturn, 1) := by decide +kernel
theorem dJ0_charAt_5068e_16 : decode prog_18_method_56_code 16 = .ok (.aload_n 0, 1) := by decide +kernel
theorem dJ0_charAt_5068e_17 : decode prog_18_method_56_code 17 = .ok (.getfield 9, 3) := by decide +kernel
theorem dJ0_charAt_5068e_20 : decode prog_18_method_56_code 20 = .ok (.iload_n 1, 1) := by decide +kernel
theorem dJ0_charAt_5068e_21 : decode prog_18_method_56_code 21 = .ok (.invokestatic 498, 3) := by decide +kernel
theorem dJ0_charAt_5068e_24 : decode prog_18_method_56_code 24 = .ok (.ireturn, 1) := by decide +kernel
theorem dJ0_coder_7d493_0 : decode prog_18_method_152_code 0 = .ok (.getstatic 38, 3) := by decide +kernel
theorem dJ0_coder_7d493_3 : decode prog_18_method_152_code 3 = .ok (.ifCond .eq 10, 3) := by decide +kernel
theorem dJ0_coder_7d493_6 : decode prog_18_method_152_code 6 = .ok (.aload_n 0, 1) := by decide +kernel
theorem dJ0_coder_7d493_7 : decode prog_18_method_152_code 7 = .ok (.getfield 15, 3) := by decide +kernel
theorem dJ0_coder_7d493_10 : decode prog_18_method_152_code 10 = .ok (.goto 4, 3) := by decide +kernel
theorem dJ0_coder_7d493_13 : decode prog_18_method_152_code 13 = .ok (.iconst 1, 1) := by decide +kernel
theorem dJ0_coder_7d493_14 : decode prog_18_method_152_code 14 = .ok (.ireturn, 1) := by decide +kernel
theorem dJ0_isLatin1_aae02_0 : decode prog_18_method_154_code 0 = .ok (.getstatic 38, 3) := by decide +kernel
theorem dJ0_isLatin1_aae02_3 : decode prog_18_method_154_code 3 = .ok (.ifCond .eq 14, 3) := by decide +kernel
theorem dJ0_isLatin1_aae02_6 : decode prog_18_method_154_code 6 = .ok (.aload_n 0, 1) := by decide +kernel
theorem dJ0_isLatin1_aae02_7 : decode prog_18_method_154_code 7 = .ok (.getfield 15, 3) := by decide +kernel
theorem dJ0_isLatin1_aae02_10 : decode prog_18_method_154_code 10 = .ok (.ifCond .ne 7, 3) := by decide +kernel
theorem dJ0_isLatin1_aae02_13 : decode prog_18_method_154_code 13 = .ok (.iconst 1, 1) := by decide +kernel
theorem dJ0_isLatin1_aae02_14 : decode prog_18_method_154_code 14 = .ok (.goto 4, 3) := by decide +kernel
theorem dJ0_isLatin1_aae02_17 : decode prog_18_method_154_code 17 = .ok (.iconst 0, 1) := by decide +kernel
theorem dJ0_isLatin1_aae02_18 : decode prog_18_method_154_code 18 = .ok (.ireturn, 1) := by decide +kernel
theorem dJ0_checkIndex_df160_0 : decode prog_18_method_155_code 0 = .ok (.iload_n 0, 1) := by decide +kernel
theorem dJ0_checkIndex_df160_1 : decode prog_18_method_155_code 1 = .ok (.iload_n 1, 1) := by decide +kernel
theorem dJ0_checkIndex_df160_2 : decode prog_18_method_155_code 2 = .ok (.getstatic 1053, 3) := by decide +kernel
theorem dJ0_checkIndex_df160_5 : decode prog_18_method_155_code 5 = .ok (.invokestatic 1059, 3) := by decide +kernel
theorem dJ0_checkIndex_df160_8 : decode prog_18_method_155_code 8 = .ok (.pop, 1) := by decide +kernel
theorem dJ0_checkIndex_df160_9 : decode prog_18_method_155_code 9 = .ok (.return_, 1) := by decide +kernel
theorem dJ1_charAt_3b067_0 : decode prog_19_method_2_code 0 = .ok (.iload_n 1, 1) := by decide +kernel
theorem dJ1_charAt_3b067_1 : decode prog_19_method_2_code 1 = .ok (.aload_n 0, 1) := by decide +kernel
theorem dJ1_charAt_3b067_2 : decode prog_19_method_2_code 2 = .ok (.arraylength, 1) := by decide +kernel
theorem dJ1_charAt_3b067_3 : decode prog_19_method_2_code 3 = .ok (.invokestatic 9, 3) := by decide +kernel
theorem dJ1_charAt_3b067_6 : decode prog_19_method_2_code 6 = .ok (.aload_n 0, 1) := by decide +kernel
theorem dJ1_charAt_3b067_7 : decode prog_19_method_2_code 7 = .ok (.iload_n 1, 1) := by decide +kernel
theorem dJ1_charAt_3b067_8 : decode prog_19_method_2_code 8 = .ok (.baload, 1) := by decide +kernel
theorem dJ1_charAt_3b067_9 : decode prog_19_method_2_code 9 = .ok (.sipush 255, 3) := by decide +kernel
theorem dJ1_charAt_3b067_12 : decode prog_19_method_2_code 12 = .ok (.iand, 1) := by decide +kernel
theorem dJ1_charAt_3b067_13 : decode prog_19_method_2_code 13 = .ok (.i2c, 1) := by decide +kernel
theorem dJ1_charAt_3b067_14 : decode prog_19_method_2_code 14 = .ok (.ireturn, 1) := by decide +kernel
theorem dJ2_getChar_3b067_0 : decode prog_20_method_5_code 0 = .ok (.getstatic 44, 3) := by decide +kernel
theorem dJ2_getChar_3b067_3 : decode prog_20_method_5_code 3 = .ok (.ifCond .ne 25, 3) := by decide +kernel
theorem dJ2_getChar_3b067_6 : decode prog_20_method_5_code 6 = .ok (.iload_n 1, 1) := by decide +kernel
theorem dJ2_getChar_3b067_7 : decode prog_20_method_5_code 7 = .ok (.ifCond .lt 11, 3) := by decide +kernel
theorem dJ2_getChar_3b067_10 : decode prog_20_method_5_code 10 = .ok (.iload_n 1, 1) := by decide +kernel
theorem dJ2_getChar_3b067_11 : decode prog_20_method_5_code 11 = .ok (.aload_n 0, 1) := by decide +kernel
theorem dJ2_getChar_3b067_12 : decode prog_20_method_5_code 12 = .ok (.invokestatic 48, 3) := by decide +kernel
theorem dJ2_getChar_3b067_15 : decode prog_20_method_5_code 15 = .ok (.if_icmp .lt 13, 3) := by decide +kernel
theorem dJ2_getChar_3b067_18 : decode prog_20_method_5_code 18 = .ok (.new 52, 3) := by decide +kernel
theorem dJ2_getChar_3b067_21 : decode prog_20_method_5_code 21 = .ok (.dup, 1) := by decide +kernel
theorem dJ2_getChar_3b067_22 : decode prog_20_method_5_code 22 = .ok (.ldc 54, 2) := by decide +kernel
theorem dJ2_getChar_3b067_24 : decode prog_20_method_5_code 24 = .ok (.invokespecial 56, 3) := by decide +kernel
theorem dJ2_getChar_3b067_27 : decode prog_20_method_5_code 27 = .ok (.athrow, 1) := by decide +kernel
theorem dJ2_getChar_3b067_28 : decode prog_20_method_5_code 28 = .ok (.iload_n 1, 1) := by decide +kernel
theorem dJ2_getChar_3b067_29 : decode prog_20_method_5_code 29 = .ok (.iconst 1, 1) := by decide +kernel
theorem dJ2_getChar_3b067_30 : decode prog_20_method_5_code 30 = .ok (.ishl, 1) := by decide +kernel
theorem dJ2_getChar_3b067_31 : decode prog_20_method_5_code 31 = .ok (.istore_n 1, 1) := by decide +kernel
theorem dJ2_getChar_3b067_32 : decode prog_20_method_5_code 32 = .ok (.aload_n 0, 1) := by decide +kernel
theorem dJ2_getChar_3b067_33 : decode prog_20_method_5_code 33 = .ok (.iload_n 1, 1) := by decide +kernel
theorem dJ2_getChar_3b067_34 : decode prog_20_method_5_code 34 = .ok (.iinc 1 1, 3) := by decide +kernel
theorem dJ2_getChar_3b067_37 : decode prog_20_method_5_code 37 = .ok (.baload, 1) := by decide +kernel
theorem dJ2_getChar_3b067_38 : decode prog_20_method_5_code 38 = .ok (.sipush 255, 3) := by decide +kernel
theorem dJ2_getChar_3b067_41 : decode prog_20_method_5_code 41 = .ok (.iand, 1) := by decide +kernel
theorem dJ2_getChar_3b067_42 : decode prog_20_method_5_code 42 = .ok (.getstatic 59, 3) := by decide +kernel
theorem dJ2_getChar_3b067_45 : decode prog_20_method_5_code 45 = .ok (.ishl, 1) := by decide +kernel
theorem dJ2_getChar_3b067_46 : decode prog_20_method_5_code 46 = .ok (.aload_n 0, 1) := by decide +kernel
theorem dJ2_getChar_3b067_47 : decode prog_20_method_5_code 47 = .ok (.iload_n 1, 1) := by decide +kernel
theorem dJ2_getChar_3b067_48 : decode prog_20_method_5_code 48 = .ok (.baload, 1) := by decide +kernel
theorem dJ2_getChar_3b067_49 : decode prog_20_method_5_code 49 = .ok (.sipush 255, 3) := by decide +kernel
theorem dJ2_getChar_3b067_52 : decode prog_20_method_5_code 52 = .ok (.iand, 1) := by decide +kernel
theorem dJ2_getChar_3b067_53 : decode prog_20_method_5_code 53 = .ok (.getstatic 63, 3) := by decide +kernel
theorem dJ2_getChar_3b067_56 : decode prog_20_method_5_code 56 = .ok (.ishl, 1) := by decide +kernel
theorem dJ2_getChar_3b067_57 : decode prog_20_method_5_code 57 = .ok (.ior, 1) := by decide +kernel
theorem dJ2_getChar_3b067_58 : decode prog_20_method_5_code 58 = .ok (.i2c, 1) := by decide +kernel
theorem dJ2_getChar_3b067_59 : decode prog_20_method_5_code 59 = .ok (.ireturn, 1) := by decide +kernel
theorem dJ2_length_9d52b_0 : decode prog_20_method_6_code 0 = .ok (.aload_n 0, 1) := by decide +kernel
theorem dJ2_length_9d52b_1 : decode prog_20_method_6_code 1 = .ok (.arraylength, 1) := by decide +kernel
theorem dJ2_length_9d52b_2 : decode prog_20_method_6_code 2 = .ok (.iconst 1, 1) := by decide +kernel
theorem dJ2_length_9d52b_3 : decode prog_20_method_6_code 3 = .ok (.ishr, 1) := by decide +kernel
theorem dJ2_length_9d52b_4 : decode prog_20_method_6_code 4 = .ok (.ireturn, 1) := by decide +kernel
theorem dJ2_charAt_3b067_0 : decode prog_20_method_83_code 0 = .ok (.iload_n 1, 1) := by decide +kernel
theorem dJ2_charAt_3b067_1 : decode prog_20_method_83_code 1 = .ok (.aload_n 0, 1) := by decide +kernel
theorem dJ2_charAt_3b067_2 : decode prog_20_method_83_code 2 = .ok (.invokestatic 67, 3) := by decide +kernel
theorem dJ2_charAt_3b067_5 : decode prog_20_method_83_code 5 = .ok (.aload_n 0, 1) := by decide +kernel
theorem dJ2_charAt_3b067_6 : decode prog_20_method_83_code 6 = .ok (.iload_n 1, 1) := by decide +kernel
theorem dJ2_charAt_3b067_7 : decode prog_20_method_83_code 7 = .ok (.invokestatic 71, 3) := by decide +kernel
theorem dJ2_charAt_3b067_10 : decode prog_20_method_83_code 10 = .ok (.ireturn, 1) := by decide +kernel
theorem dJ2_checkIndex_2214a_0 : decode prog_20_method_91_code 0 = .ok (.iload_n 0, 1) := by decide +kernel
theorem dJ2_checkIndex_2214a_1 : decode prog_20_method_91_code 1 = .ok (.aload_n 1, 1) := by decide +kernel
theorem dJ2_checkIndex_2214a_2 : decode prog_20_method_91_code 2 = .ok (.invokestatic 48, 3) := by decide +kernel
theorem dJ2_checkIndex_2214a_5 : decode prog_20_method_91_code 5 = .ok (.invokestatic 414, 3) := by decide +kernel
theorem dJ2_checkIndex_2214a_8 : decode prog_20_method_91_code 8 = .ok (.return_, 1) := by decide +kernel
theorem dJ3_checkIndex_8e157_0 : decode prog_21_method_11_code 0 = .ok (.iload_n 0, 1) := by decide +kernel
theorem dJ3_checkIndex_8e157_1 : decode prog_21_method_11_code 1 = .ok (.ifCond .lt 8, 3) := by decide +kernel
theorem dJ3_checkIndex_8e157_4 : decode prog_21_method_11_code 4 = .ok (.iload_n 0, 1) := by decide +kernel
theorem dJ3_checkIndex_8e157_5 : decode prog_21_method_11_code 5 = .ok (.iload_n 1, 1) := by decide +kernel
theorem dJ3_checkIndex_8e157_6 : decode prog_21_method_11_code 6 = .ok (.if_icmp .lt 10, 3) := by decide +kernel
theorem dJ3_checkIndex_8e157_9 : decode prog_21_method_11_code 9 = .ok (.aload_n 2, 1) := by decide +kernel
theorem dJ3_checkIndex_8e157_10 : decode prog_21_method_11_code 10 = .ok (.iload_n 0, 1) := by decide +kernel
theorem dJ3_checkIndex_8e157_11 : decode prog_21_method_11_code 11 = .ok (.iload_n 1, 1) := by decide +kernel
theorem dJ3_checkIndex_8e157_12 : decode prog_21_method_11_code 12 = .ok (.invokestatic 95, 3) := by decide +kernel
theorem dJ3_checkIndex_8e157_15 : decode prog_21_method_11_code 15 = .ok (.athrow, 1) := by decide +kernel
theorem dJ3_checkIndex_8e157_16 : decode prog_21_method_11_code 16 = .ok (.iload_n 0, 1) := by decide +kernel
theorem dJ3_checkIndex_8e157_17 : decode prog_21_method_11_code 17 = .ok (.ireturn, 1) := by decide +kernel
theorem dL_law_0 : decode code 0 = .ok (.new 7, 3) := by decide +kernel
theorem dL_law_3 : decode code 3 = .ok (.dup, 1) := by decide +kernel
theorem dL_law_4 : decode code 4 = .ok (.invokespecial 9, 3) := by decide +kernel
theorem dL_law_7 : decode code 7 = .ok (.astore_n 1, 1) := by decide +kernel
theorem dL_law_8 : decode code 8 = .ok (.new 10, 3) := by decide +kernel
theorem dL_law_11 : decode code 11 = .ok (.dup, 1) := by decide +kernel
theorem dL_law_12 : decode code 12 = .ok (.invokespecial 12, 3) := by decide +kernel
theorem dL_law_15 : decode code 15 = .ok (.astore_n 2, 1) := by decide +kernel
theorem dL_law_16 : decode code 16 = .ok (.iconst 0, 1) := by decide +kernel
theorem dL_law_17 : decode code 17 = .ok (.istore_n 3, 1) := by decide +kernel
theorem dL_law_18 : decode code 18 = .ok (.iload_n 3, 1) := by decide +kernel
theorem dL_law_19 : decode code 19 = .ok (.aload_n 0, 1) := by decide +kernel
theorem dL_law_20 : decode code 20 = .ok (.arraylength, 1) := by decide +kernel
theorem dL_law_21 : decode code 21 = .ok (.bipush 11, 2) := by decide +kernel
theorem dL_law_23 : decode code 23 = .ok (.isub, 1) := by decide +kernel
theorem dL_law_24 : decode code 24 = .ok (.if_icmp .gt 787, 3) := by decide +kernel
theorem dL_law_27 : decode code 27 = .ok (.aload_n 0, 1) := by decide +kernel
theorem dL_law_28 : decode code 28 = .ok (.iload_n 3, 1) := by decide +kernel
theorem dL_law_29 : decode code 29 = .ok (.iaload, 1) := by decide +kernel
theorem dL_law_30 : decode code 30 = .ok (.bipush 31, 2) := by decide +kernel
theorem dL_law_32 : decode code 32 = .ok (.iand, 1) := by decide +kernel
theorem dL_law_33 : decode code 33 = .ok (.tableswitch 772 0 20 #[99, 322, 345, 358, 371, 384, 407, 450, 463, 476, 489, 502, 525, 548, 571, 594, 637, 680, 733, 746, 759], 99) := by decide +kernel
theorem dL_law_132 : decode code 132 = .ok (.aload_n 1, 1) := by decide +kernel
theorem dL_law_133 : decode code 133 = .ok (.aload_n 0, 1) := by decide +kernel
theorem dL_law_134 : decode code 134 = .ok (.iload_n 3, 1) := by decide +kernel
theorem dL_law_135 : decode code 135 = .ok (.iconst 1, 1) := by decide +kernel
theorem dL_law_136 : decode code 136 = .ok (.iadd, 1) := by decide +kernel
theorem dL_law_137 : decode code 137 = .ok (.iaload, 1) := by decide +kernel
theorem dL_law_138 : decode code 138 = .ok (.i2l, 1) := by decide +kernel
theorem dL_law_139 : decode code 139 = .ok (.bipush 32, 2) := by decide +kernel
theorem dL_law_141 : decode code 141 = .ok (.lshl, 1) := by decide +kernel
theorem dL_law_142 : decode code 142 = .ok (.aload_n 0, 1) := by decide +kernel
theorem dL_law_143 : decode code 143 = .ok (.iload_n 3, 1) := by decide +kernel
theorem dL_law_144 : decode code 144 = .ok (.iconst 2, 1) := by decide +kernel
theorem dL_law_145 : decode code 145 = .ok (.iadd, 1) := by decide +kernel
theorem dL_law_146 : decode code 146 = .ok (.iaload, 1) := by decide +kernel
theorem dL_law_147 : decode code 147 = .ok (.i2l, 1) := by decide +kernel
theorem dL_law_148 : decode code 148 = .ok (.ldc2_w 13, 3) := by decide +kernel
theorem dL_law_151 : decode code 151 = .ok (.land, 1) := by decide +kernel
theorem dL_law_152 : decode code 152 = .ok (.lor, 1) := by decide +kernel
theorem dL_law_153 : decode code 153 = .ok (.aload_n 0, 1) := by decide +kernel
theorem dL_law_154 : decode code 154 = .ok (.iload_n 3, 1) := by decide +kernel
theorem dL_law_155 : decode code 155 = .ok (.iconst 3, 1) := by decide +kernel
theorem dL_law_156 : decode code 156 = .ok (.iadd, 1) := by decide +kernel
theorem dL_law_157 : decode code 157 = .ok (.iaload, 1) := by decide +kernel
theorem dL_law_158 : decode code 158 = .ok (.i2l, 1) := by decide +kernel
theorem dL_law_159 : decode code 159 = .ok (.bipush 32, 2) := by decide +kernel
theorem dL_law_161 : decode code 161 = .ok (.lshl, 1) := by decide +kernel
theorem dL_law_162 : decode code 162 = .ok (.aload_n 0, 1) := by decide +kernel
theorem dL_law_163 : decode code 163 = .ok (.iload_n 3, 1) := by decide +kernel
theorem dL_law_164 : decode code 164 = .ok (.iconst 4, 1) := by decide +kernel
theorem dL_law_165 : decode code 165 = .ok (.iadd, 1) := by decide +kernel
theorem dL_law_166 : decode code 166 = .ok (.iaload, 1) := by decide +kernel
theorem dL_law_167 : decode code 167 = .ok (.i2l, 1) := by decide +kernel
theorem dL_law_168 : decode code 168 = .ok (.ldc2_w 13, 3) := by decide +kernel
theorem dL_law_171 : decode code 171 = .ok (.land, 1) := by decide +kernel
theorem dL_law_172 : decode code 172 = .ok (.lor, 1) := by decide +kernel
theorem dL_law_173 : decode code 173 = .ok (.aload_n 0, 1) := by decide +kernel
theorem dL_law_174 : decode code 174 = .ok (.iload_n 3, 1) := by decide +kernel
theorem dL_law_175 : decode code 175 = .ok (.iconst 5, 1) := by decide +kernel
theorem dL_law_176 : decode code 176 = .ok (.iadd, 1) := by decide +kernel
theorem dL_law_177 : decode code 177 = .ok (.iaload, 1) := by decide +kernel
theorem dL_law_178 : decode code 178 = .ok (.i2l, 1) := by decide +kernel
theorem dL_law_179 : decode code 179 = .ok (.bipush 32, 2) := by decide +kernel
theorem dL_law_181 : decode code 181 = .ok (.lshl, 1) := by decide +kernel
theorem dL_law_182 : decode code 182 = .ok (.aload_n 0, 1) := by decide +kernel
theorem dL_law_183 : decode code 183 = .ok (.iload_n 3, 1) := by decide +kernel
theorem dL_law_184 : decode code 184 = .ok (.bipush 6, 2) := by decide +kernel
theorem dL_law_186 : decode code 186 = .ok (.iadd, 1) := by decide +kernel
theorem dL_law_187 : decode code 187 = .ok (.iaload, 1) := by decide +kernel
theorem dL_law_188 : decode code 188 = .ok (.i2l, 1) := by decide +kernel
theorem dL_law_189 : decode code 189 = .ok (.ldc2_w 13, 3) := by decide +kernel
theorem dL_law_192 : decode code 192 = .ok (.land, 1) := by decide +kernel
theorem dL_law_193 : decode code 193 = .ok (.lor, 1) := by decide +kernel
theorem dL_law_194 : decode code 194 = .ok (.aload_n 0, 1) := by decide +kernel
theorem dL_law_195 : decode code 195 = .ok (.iload_n 3, 1) := by decide +kernel
theorem dL_law_196 : decode code 196 = .ok (.bipush 7, 2) := by decide +kernel
theorem dL_law_198 : decode code 198 = .ok (.iadd, 1) := by decide +kernel
theorem dL_law_199 : decode code 199 = .ok (.iaload, 1) := by decide +kernel
theorem dL_law_200 : decode code 200 = .ok (.i2l, 1) := by decide +kernel
theorem dL_law_201 : decode code 201 = .ok (.bipush 32, 2) := by decide +kernel
theorem dL_law_203 : decode code 203 = .ok (.lshl, 1) := by decide +kernel
theorem dL_law_204 : decode code 204 = .ok (.aload_n 0, 1) := by decide +kernel
theorem dL_law_205 : decode code 205 = .ok (.iload_n 3, 1) := by decide +kernel
theorem dL_law_206 : decode code 206 = .ok (.bipush 8, 2) := by decide +kernel
theorem dL_law_208 : decode code 208 = .ok (.iadd, 1) := by decide +kernel
theorem dL_law_209 : decode code 209 = .ok (.iaload, 1) := by decide +kernel
theorem dL_law_210 : decode code 210 = .ok (.i2l, 1) := by decide +kernel
theorem dL_law_211 : decode code 211 = .ok (.ldc2_w 13, 3) := by decide +kernel
theorem dL_law_214 : decode code 214 = .ok (.land, 1) := by decide +kernel
theorem dL_law_215 : decode code 215 = .ok (.lor, 1) := by decide +kernel
theorem dL_law_216 : decode code 216 = .ok (.aload_n 0, 1) := by decide +kernel
theorem dL_law_217 : decode code 217 = .ok (.iload_n 3, 1) := by decide +kernel
theorem dL_law_218 : decode code 218 = .ok (.bipush 9, 2) := by decide +kernel
theorem dL_law_220 : decode code 220 = .ok (.iadd, 1) := by decide +kernel
theorem dL_law_221 : decode code 221 = .ok (.iaload, 1) := by decide +kernel
theorem dL_law_222 : decode code 222 = .ok (.i2l, 1) := by decide +kernel
theorem dL_law_223 : decode code 223 = .ok (.bipush 32, 2) := by decide +kernel
theorem dL_law_225 : decode code 225 = .ok (.lshl, 1) := by decide +kernel
theorem dL_law_226 : decode code 226 = .ok (.aload_n 0, 1) := by decide +kernel
theorem dL_law_227 : decode code 227 = .ok (.iload_n 3, 1) := by decide +kernel
theorem dL_law_228 : decode code 228 = .ok (.bipush 10, 2) := by decide +kernel
theorem dL_law_230 : decode code 230 = .ok (.iadd, 1) := by decide +kernel
theorem dL_law_231 : decode code 231 = .ok (.iaload, 1) := by decide +kernel
theorem dL_law_232 : decode code 232 = .ok (.i2l, 1) := by decide +kernel
theorem dL_law_233 : decode code 233 = .ok (.ldc2_w 13, 3) := by decide +kernel
theorem dL_law_236 : decode code 236 = .ok (.land, 1) := by decide +kernel
theorem dL_law_237 : decode code 237 = .ok (.lor, 1) := by decide +kernel
theorem dL_law_238 : decode code 238 = .ok (.invokevirtual 15, 3) := by decide +kernel
theorem dL_law_241 : decode code 241 = .ok (.aload_n 2, 1) := by decide +kernel
theorem dL_law_242 : decode code 242 = .ok (.aload_n 0, 1) := by decide +kernel
theorem dL_law_243 : decode code 243 = .ok (.iload_n 3, 1) := by decide +kernel
theorem dL_law_244 : decode code 244 = .ok (.iconst 1, 1) := by decide +kernel
theorem dL_law_245 : decode code 245 = .ok (.iadd, 1) := by decide +kernel
theorem dL_law_246 : decode code 246 = .ok (.iaload, 1) := by decide +kernel
theorem dL_law_247 : decode code 247 = .ok (.i2l, 1) := by decide +kernel
theorem dL_law_248 : decode code 248 = .ok (.bipush 32, 2) := by decide +kernel
theorem dL_law_250 : decode code 250 = .ok (.lshl, 1) := by decide +kernel
theorem dL_law_251 : decode code 251 = .ok (.aload_n 0, 1) := by decide +kernel
theorem dL_law_252 : decode code 252 = .ok (.iload_n 3, 1) := by decide +kernel
theorem dL_law_253 : decode code 253 = .ok (.iconst 2, 1) := by decide +kernel
theorem dL_law_254 : decode code 254 = .ok (.iadd, 1) := by decide +kernel
theorem dL_law_255 : decode code 255 = .ok (.iaload, 1) := by decide +kernel
theorem dL_law_256 : decode code 256 = .ok (.i2l, 1) := by decide +kernel
theorem dL_law_257 : decode code 257 = .ok (.ldc2_w 13, 3) := by decide +kernel
theorem dL_law_260 : decode code 260 = .ok (.land, 1) := by decide +kernel
theorem dL_law_261 : decode code 261 = .ok (.lor, 1) := by decide +kernel
theorem dL_law_262 : decode code 262 = .ok (.aload_n 0, 1) := by decide +kernel
theorem dL_law_263 : decode code 263 = .ok (.iload_n 3, 1) := by decide +kernel
theorem dL_law_264 : decode code 264 = .ok (.iconst 3, 1) := by decide +kernel
theorem dL_law_265 : decode code 265 = .ok (.iadd, 1) := by decide +kernel
theorem dL_law_266 : decode code 266 = .ok (.iaload, 1) := by decide +kernel
theorem dL_law_267 : decode code 267 = .ok (.i2l, 1) := by decide +kernel
theorem dL_law_268 : decode code 268 = .ok (.bipush 32, 2) := by decide +kernel
theorem dL_law_270 : decode code 270 = .ok (.lshl, 1) := by decide +kernel
theorem dL_law_271 : decode code 271 = .ok (.aload_n 0, 1) := by decide +kernel
theorem dL_law_272 : decode code 272 = .ok (.iload_n 3, 1) := by decide +kernel
theorem dL_law_273 : decode code 273 = .ok (.iconst 4, 1) := by decide +kernel
theorem dL_law_274 : decode code 274 = .ok (.iadd, 1) := by decide +kernel
theorem dL_law_275 : decode code 275 = .ok (.iaload, 1) := by decide +kernel
theorem dL_law_276 : decode code 276 = .ok (.i2l, 1) := by decide +kernel
theorem dL_law_277 : decode code 277 = .ok (.ldc2_w 13, 3) := by decide +kernel
theorem dL_law_280 : decode code 280 = .ok (.land, 1) := by decide +kernel
theorem dL_law_281 : decode code 281 = .ok (.lor, 1) := by decide +kernel
theorem dL_law_282 : decode code 282 = .ok (.aload_n 0, 1) := by decide +kernel
theorem dL_law_283 : decode code 283 = .ok (.iload_n 3, 1) := by decide +kernel
theorem dL_law_284 : decode code 284 = .ok (.iconst 5, 1) := by decide +kernel
theorem dL_law_285 : decode code 285 = .ok (.iadd, 1) := by decide +kernel
theorem dL_law_286 : decode code 286 = .ok (.iaload, 1) := by decide +kernel
theorem dL_law_287 : decode code 287 = .ok (.i2l, 1) := by decide +kernel
theorem dL_law_288 : decode code 288 = .ok (.bipush 32, 2) := by decide +kernel
theorem dL_law_290 : decode code 290 = .ok (.lshl, 1) := by decide +kernel
theorem dL_law_291 : decode code 291 = .ok (.aload_n 0, 1) := by decide +kernel
theorem dL_law_292 : decode code 292 = .ok (.iload_n 3, 1) := by decide +kernel
theorem dL_law_293 : decode code 293 = .ok (.bipush 6, 2) := by decide +kernel
theorem dL_law_295 : decode code 295 = .ok (.iadd, 1) := by decide +kernel
theorem dL_law_296 : decode code 296 = .ok (.iaload, 1) := by decide +kernel
theorem dL_law_297 : decode code 297 = .ok (.i2l, 1) := by decide +kernel
theorem dL_law_298 : decode code 298 = .ok (.ldc2_w 13, 3) := by decide +kernel
theorem dL_law_301 : decode code 301 = .ok (.land, 1) := by decide +kernel
theorem dL_law_302 : decode code 302 = .ok (.lor, 1) := by decide +kernel
theorem dL_law_303 : decode code 303 = .ok (.aload_n 0, 1) := by decide +kernel
theorem dL_law_304 : decode code 304 = .ok (.iload_n 3, 1) := by decide +kernel
theorem dL_law_305 : decode code 305 = .ok (.bipush 7, 2) := by decide +kernel
theorem dL_law_307 : decode code 307 = .ok (.iadd, 1) := by decide +kernel
theorem dL_law_308 : decode code 308 = .ok (.iaload, 1) := by decide +kernel
theorem dL_law_309 : decode code 309 = .ok (.i2l, 1) := by decide +kernel
theorem dL_law_310 : decode code 310 = .ok (.bipush 32, 2) := by decide +kernel
theorem dL_law_312 : decode code 312 = .ok (.lshl, 1) := by decide +kernel
theorem dL_law_313 : decode code 313 = .ok (.aload_n 0, 1) := by decide +kernel
theorem dL_law_314 : decode code 314 = .ok (.iload_n 3, 1) := by decide +kernel
theorem dL_law_315 : decode code 315 = .ok (.bipush 8, 2) := by decide +kernel
theorem dL_law_317 : decode code 317 = .ok (.iadd, 1) := by decide +kernel
theorem dL_law_318 : decode code 318 = .ok (.iaload, 1) := by decide +kernel
theorem dL_law_319 : decode code 319 = .ok (.i2l, 1) := by decide +kernel
theorem dL_law_320 : decode code 320 = .ok (.ldc2_w 13, 3) := by decide +kernel
theorem dL_law_323 : decode code 323 = .ok (.land, 1) := by decide +kernel
theorem dL_law_324 : decode code 324 = .ok (.lor, 1) := by decide +kernel
theorem dL_law_325 : decode code 325 = .ok (.aload_n 0, 1) := by decide +kernel
theorem dL_law_326 : decode code 326 = .ok (.iload_n 3, 1) := by decide +kernel
theorem dL_law_327 : decode code 327 = .ok (.bipush 9, 2) := by decide +kernel
theorem dL_law_329 : decode code 329 = .ok (.iadd, 1) := by decide +kernel
theorem dL_law_330 : decode code 330 = .ok (.iaload, 1) := by decide +kernel
theorem dL_law_331 : decode code 331 = .ok (.i2l, 1) := by decide +kernel
theorem dL_law_332 : decode code 332 = .ok (.bipush 32, 2) := by decide +kernel
theorem dL_law_334 : decode code 334 = .ok (.lshl, 1) := by decide +kernel
theorem dL_law_335 : decode code 335 = .ok (.aload_n 0, 1) := by decide +kernel
theorem dL_law_336 : decode code 336 = .ok (.iload_n 3, 1) := by decide +kernel
theorem dL_law_337 : decode code 337 = .ok (.bipush 10, 2) := by decide +kernel
theorem dL_law_339 : decode code 339 = .ok (.iadd, 1) := by decide +kernel
theorem dL_law_340 : decode code 340 = .ok (.iaload, 1) := by decide +kernel
theorem dL_law_341 : decode code 341 = .ok (.i2l, 1) := by decide +kernel
theorem dL_law_342 : decode code 342 = .ok (.ldc2_w 13, 3) := by decide +kernel
theorem dL_law_345 : decode code 345 = .ok (.land, 1) := by decide +kernel
theorem dL_law_346 : decode code 346 = .ok (.lor, 1) := by decide +kernel
theorem dL_law_347 : decode code 347 = .ok (.invokevirtual 19, 3) := by decide +kernel
theorem dL_law_350 : decode code 350 = .ok (.if_icmp .eq 455, 3) := by decide +kernel
theorem dL_law_353 : decode code 353 = .ok (.iconst 0, 1) := by decide +kernel
theorem dL_law_354 : decode code 354 = .ok (.ireturn, 1) := by decide +kernel
theorem dL_law_355 : decode code 355 = .ok (.aload_n 1, 1) := by decide +kernel
theorem dL_law_356 : decode code 356 = .ok (.aload_n 0, 1) := by decide +kernel
theorem dL_law_357 : decode code 357 = .ok (.iload_n 3, 1) := by decide +kernel
theorem dL_law_358 : decode code 358 = .ok (.iconst 1, 1) := by decide +kernel
theorem dL_law_359 : decode code 359 = .ok (.iadd, 1) := by decide +kernel
theorem dL_law_360 : decode code 360 = .ok (.iaload, 1) := by decide +kernel
theorem dL_law_361 : decode code 361 = .ok (.invokevirtual 20, 3) := by decide +kernel
theorem dL_law_364 : decode code 364 = .ok (.aload_n 2, 1) := by decide +kernel
theorem dL_law_365 : decode code 365 = .ok (.aload_n 0, 1) := by decide +kernel
theorem dL_law_366 : decode code 366 = .ok (.iload_n 3, 1) := by decide +kernel
theorem dL_law_367 : decode code 367 = .ok (.iconst 1, 1) := by decide +kernel
theorem dL_law_368 : decode code 368 = .ok (.iadd, 1) := by decide +kernel
theorem dL_law_369 : decode code 369 = .ok (.iaload, 1) := by decide +kernel
theorem dL_law_370 : decode code 370 = .ok (.invokevirtual 24, 3) := by decide +kernel
theorem dL_law_373 : decode code 373 = .ok (.if_icmp .eq 432, 3) := by decide +kernel
theorem dL_law_376 : decode code 376 = .ok (.iconst 0, 1) := by decide +kernel
theorem dL_law_377 : decode code 377 = .ok (.ireturn, 1) := by decide +kernel
theorem dL_law_378 : decode code 378 = .ok (.aload_n 1, 1) := by decide +kernel
theorem dL_law_379 : decode code 379 = .ok (.invokevirtual 25, 3) := by decide +kernel
theorem dL_law_382 : decode code 382 = .ok (.aload_n 2, 1) := by decide +kernel
theorem dL_law_383 : decode code 383 = .ok (.invokevirtual 29, 3) := by decide +kernel
theorem dL_law_386 : decode code 386 = .ok (.if_icmp .eq 419, 3) := by decide +kernel
