theorem dX14_byteAt_0 : decode prog_13_method_52_code 0 = .ok (.iload_n 1, 1) := by decide +kernel
theorem dX14_byteAt_1 : decode prog_13_method_52_code 1 = .ok (.aload_n 0, 1) := by decide +kernel
theorem dX14_byteAt_2 : decode prog_13_method_52_code 2 = .ok (.getfield 373, 3) := by decide +kernel
theorem dX14_byteAt_5 : decode prog_13_method_52_code 5 = .ok (.if_icmp .ge 12, 3) := by decide +kernel
theorem dX14_byteAt_17 : decode prog_13_method_52_code 17 = .ok (.iconst (-1), 1) := by decide +kernel
theorem dX14_byteAt_18 : decode prog_13_method_52_code 18 = .ok (.ireturn, 1) := by decide +kernel
theorem dX14_next_0 : decode prog_13_method_55_code 0 = .ok (.aload_n 0, 1) := by decide +kernel
theorem dX14_next_1 : decode prog_13_method_55_code 1 = .ok (.aload_n 0, 1) := by decide +kernel
theorem dX14_next_2 : decode prog_13_method_55_code 2 = .ok (.getfield 379, 3) := by decide +kernel
theorem dX14_next_5 : decode prog_13_method_55_code 5 = .ok (.invokevirtual 382, 3) := by decide +kernel
theorem dX14_next_8 : decode prog_13_method_55_code 8 = .ok (.bipush 32, 2) := by decide +kernel
theorem dX14_next_10 : decode prog_13_method_55_code 10 = .ok (.if_icmp .eq 16, 3) := by decide +kernel
theorem dX14_next_13 : decode prog_13_method_55_code 13 = .ok (.aload_n 0, 1) := by decide +kernel
theorem dX14_next_14 : decode prog_13_method_55_code 14 = .ok (.aload_n 0, 1) := by decide +kernel
theorem dX14_next_15 : decode prog_13_method_55_code 15 = .ok (.getfield 379, 3) := by decide +kernel
theorem dX14_next_18 : decode prog_13_method_55_code 18 = .ok (.invokevirtual 382, 3) := by decide +kernel
theorem dX14_next_21 : decode prog_13_method_55_code 21 = .ok (.bipush 10, 2) := by decide +kernel
theorem dX14_next_23 : decode prog_13_method_55_code 23 = .ok (.if_icmp .ne 16, 3) := by decide +kernel
theorem dX14_next_39 : decode prog_13_method_55_code 39 = .ok (.aload_n 0, 1) := by decide +kernel
theorem dX14_next_40 : decode prog_13_method_55_code 40 = .ok (.aload_n 0, 1) := by decide +kernel
theorem dX14_next_41 : decode prog_13_method_55_code 41 = .ok (.getfield 379, 3) := by decide +kernel
theorem dX14_next_44 : decode prog_13_method_55_code 44 = .ok (.putfield 368, 3) := by decide +kernel
theorem dX14_next_47 : decode prog_13_method_55_code 47 = .ok (.aload_n 0, 1) := by decide +kernel
theorem dX14_next_48 : decode prog_13_method_55_code 48 = .ok (.aload_n 0, 1) := by decide +kernel
theorem dX14_next_49 : decode prog_13_method_55_code 49 = .ok (.getfield 379, 3) := by decide +kernel
theorem dX14_next_52 : decode prog_13_method_55_code 52 = .ok (.invokevirtual 382, 3) := by decide +kernel
theorem dX14_next_55 : decode prog_13_method_55_code 55 = .ok (.istore_n 1, 1) := by decide +kernel
theorem dX14_next_56 : decode prog_13_method_55_code 56 = .ok (.iload_n 1, 1) := by decide +kernel
theorem dX14_next_57 : decode prog_13_method_55_code 57 = .ok (.ifCond .ge 11, 3) := by decide +kernel
theorem dX14_next_60 : decode prog_13_method_55_code 60 = .ok (.aload_n 0, 1) := by decide +kernel
theorem dX14_next_61 : decode prog_13_method_55_code 61 = .ok (.iconst 0, 1) := by decide +kernel
theorem dX14_next_62 : decode prog_13_method_55_code 62 = .ok (.putfield 385, 3) := by decide +kernel
theorem dX14_next_65 : decode prog_13_method_55_code 65 = .ok (.goto 132, 3) := by decide +kernel
theorem dX14_next_197 : decode prog_13_method_55_code 197 = .ok (.return_, 1) := by decide +kernel
theorem dX14_init_0 : decode prog_13_method_65_code 0 = .ok (.aload_n 0, 1) := by decide +kernel
theorem dX14_init_1 : decode prog_13_method_65_code 1 = .ok (.invokespecial 457, 3) := by decide +kernel
theorem dX14_init_4 : decode prog_13_method_65_code 4 = .ok (.aload_n 0, 1) := by decide +kernel
theorem dX14_init_5 : decode prog_13_method_65_code 5 = .ok (.bipush 8, 2) := by decide +kernel
theorem dX14_init_7 : decode prog_13_method_65_code 7 = .ok (.newarray .long, 2) := by decide +kernel
theorem dX14_init_9 : decode prog_13_method_65_code 9 = .ok (.putfield 5, 3) := by decide +kernel
theorem dX14_init_12 : decode prog_13_method_65_code 12 = .ok (.aload_n 0, 1) := by decide +kernel
theorem dX14_init_13 : decode prog_13_method_65_code 13 = .ok (.bipush 8, 2) := by decide +kernel
theorem dX14_init_15 : decode prog_13_method_65_code 15 = .ok (.newarray .long, 2) := by decide +kernel
theorem dX14_init_17 : decode prog_13_method_65_code 17 = .ok (.putfield 13, 3) := by decide +kernel
theorem dX14_init_20 : decode prog_13_method_65_code 20 = .ok (.aload_n 0, 1) := by decide +kernel
theorem dX14_init_21 : decode prog_13_method_65_code 21 = .ok (.bipush 8, 2) := by decide +kernel
theorem dX14_init_23 : decode prog_13_method_65_code 23 = .ok (.newarray .long, 2) := by decide +kernel
theorem dX14_init_25 : decode prog_13_method_65_code 25 = .ok (.putfield 16, 3) := by decide +kernel
theorem dX14_init_28 : decode prog_13_method_65_code 28 = .ok (.aload_n 0, 1) := by decide +kernel
theorem dX14_init_29 : decode prog_13_method_65_code 29 = .ok (.bipush 8, 2) := by decide +kernel
theorem dX14_init_31 : decode prog_13_method_65_code 31 = .ok (.newarray .long, 2) := by decide +kernel
theorem dX14_init_33 : decode prog_13_method_65_code 33 = .ok (.putfield 23, 3) := by decide +kernel
theorem dX14_init_36 : decode prog_13_method_65_code 36 = .ok (.aload_n 0, 1) := by decide +kernel
theorem dX14_init_37 : decode prog_13_method_65_code 37 = .ok (.bipush 82, 2) := by decide +kernel
theorem dX14_init_39 : decode prog_13_method_65_code 39 = .ok (.newarray .long, 2) := by decide +kernel
theorem dX14_init_41 : decode prog_13_method_65_code 41 = .ok (.putfield 111, 3) := by decide +kernel
theorem dX14_init_44 : decode prog_13_method_65_code 44 = .ok (.aload_n 0, 1) := by decide +kernel
theorem dX14_init_45 : decode prog_13_method_65_code 45 = .ok (.bipush 82, 2) := by decide +kernel
theorem dX14_init_47 : decode prog_13_method_65_code 47 = .ok (.newarray .long, 2) := by decide +kernel
theorem dX14_init_49 : decode prog_13_method_65_code 49 = .ok (.putfield 117, 3) := by decide +kernel
theorem dX14_init_52 : decode prog_13_method_65_code 52 = .ok (.aload_n 0, 1) := by decide +kernel
theorem dX14_init_53 : decode prog_13_method_65_code 53 = .ok (.bipush 8, 2) := by decide +kernel
theorem dX14_init_55 : decode prog_13_method_65_code 55 = .ok (.newarray .boolean, 2) := by decide +kernel
theorem dX14_init_57 : decode prog_13_method_65_code 57 = .ok (.putfield 156, 3) := by decide +kernel
theorem dX14_init_60 : decode prog_13_method_65_code 60 = .ok (.aload_n 0, 1) := by decide +kernel
theorem dX14_init_61 : decode prog_13_method_65_code 61 = .ok (.new 31, 3) := by decide +kernel
theorem dX14_init_64 : decode prog_13_method_65_code 64 = .ok (.dup, 1) := by decide +kernel
theorem dX14_init_65 : decode prog_13_method_65_code 65 = .ok (.invokespecial 462, 3) := by decide +kernel
theorem dX14_init_68 : decode prog_13_method_65_code 68 = .ok (.putfield 254, 3) := by decide +kernel
theorem dX14_init_71 : decode prog_13_method_65_code 71 = .ok (.aload_n 0, 1) := by decide +kernel
theorem dX14_init_72 : decode prog_13_method_65_code 72 = .ok (.new 31, 3) := by decide +kernel
theorem dX14_init_75 : decode prog_13_method_65_code 75 = .ok (.dup, 1) := by decide +kernel
theorem dX14_init_76 : decode prog_13_method_65_code 76 = .ok (.invokespecial 462, 3) := by decide +kernel
theorem dX14_init_79 : decode prog_13_method_65_code 79 = .ok (.putfield 262, 3) := by decide +kernel
theorem dX14_init_82 : decode prog_13_method_65_code 82 = .ok (.aload_n 0, 1) := by decide +kernel
theorem dX14_init_83 : decode prog_13_method_65_code 83 = .ok (.bipush 8, 2) := by decide +kernel
theorem dX14_init_85 : decode prog_13_method_65_code 85 = .ok (.newarray .int, 2) := by decide +kernel
theorem dX14_init_87 : decode prog_13_method_65_code 87 = .ok (.putfield 265, 3) := by decide +kernel
theorem dX14_init_90 : decode prog_13_method_65_code 90 = .ok (.aload_n 0, 1) := by decide +kernel
theorem dX14_init_91 : decode prog_13_method_65_code 91 = .ok (.new 289, 3) := by decide +kernel
theorem dX14_init_94 : decode prog_13_method_65_code 94 = .ok (.dup, 1) := by decide +kernel
theorem dX14_init_95 : decode prog_13_method_65_code 95 = .ok (.invokespecial 463, 3) := by decide +kernel
theorem dX14_init_98 : decode prog_13_method_65_code 98 = .ok (.putfield 296, 3) := by decide +kernel
theorem dX14_init_101 : decode prog_13_method_65_code 101 = .ok (.aload_n 0, 1) := by decide +kernel
theorem dX14_init_102 : decode prog_13_method_65_code 102 = .ok (.new 289, 3) := by decide +kernel
theorem dX14_init_105 : decode prog_13_method_65_code 105 = .ok (.dup, 1) := by decide +kernel
theorem dX14_init_106 : decode prog_13_method_65_code 106 = .ok (.invokespecial 463, 3) := by decide +kernel
theorem dX14_init_109 : decode prog_13_method_65_code 109 = .ok (.putfield 464, 3) := by decide +kernel
theorem dX14_init_112 : decode prog_13_method_65_code 112 = .ok (.aload_n 0, 1) := by decide +kernel
theorem dX14_init_113 : decode prog_13_method_65_code 113 = .ok (.new 289, 3) := by decide +kernel
theorem dX14_init_116 : decode prog_13_method_65_code 116 = .ok (.dup, 1) := by decide +kernel
theorem dX14_init_117 : decode prog_13_method_65_code 117 = .ok (.invokespecial 463, 3) := by decide +kernel
theorem dX14_init_120 : decode prog_13_method_65_code 120 = .ok (.putfield 467, 3) := by decide +kernel
theorem dX14_init_123 : decode prog_13_method_65_code 123 = .ok (.aload_n 0, 1) := by decide +kernel
theorem dX14_init_124 : decode prog_13_method_65_code 124 = .ok (.new 355, 3) := by decide +kernel
theorem dX14_init_127 : decode prog_13_method_65_code 127 = .ok (.dup, 1) := by decide +kernel
theorem dX14_init_128 : decode prog_13_method_65_code 128 = .ok (.invokespecial 470, 3) := by decide +kernel
theorem dX14_init_131 : decode prog_13_method_65_code 131 = .ok (.putfield 351, 3) := by decide +kernel
theorem dX14_init_134 : decode prog_13_method_65_code 134 = .ok (.aload_n 0, 1) := by decide +kernel
theorem dX14_init_135 : decode prog_13_method_65_code 135 = .ok (.new 355, 3) := by decide +kernel
theorem dX14_init_138 : decode prog_13_method_65_code 138 = .ok (.dup, 1) := by decide +kernel
theorem dX14_init_139 : decode prog_13_method_65_code 139 = .ok (.invokespecial 470, 3) := by decide +kernel
theorem dX14_init_142 : decode prog_13_method_65_code 142 = .ok (.putfield 347, 3) := by decide +kernel
theorem dX14_init_145 : decode prog_13_method_65_code 145 = .ok (.aload_n 0, 1) := by decide +kernel
theorem dX14_init_146 : decode prog_13_method_65_code 146 = .ok (.iconst (-1), 1) := by decide +kernel
theorem dX14_init_147 : decode prog_13_method_65_code 147 = .ok (.putfield 323, 3) := by decide +kernel
theorem dX14_init_150 : decode prog_13_method_65_code 150 = .ok (.aload_n 0, 1) := by decide +kernel
theorem dX14_init_151 : decode prog_13_method_65_code 151 = .ok (.sipush 4000, 3) := by decide +kernel
theorem dX14_init_154 : decode prog_13_method_65_code 154 = .ok (.newarray .int, 2) := by decide +kernel
theorem dX14_init_156 : decode prog_13_method_65_code 156 = .ok (.putfield 376, 3) := by decide +kernel
theorem dX14_init_159 : decode prog_13_method_65_code 159 = .ok (.aload_n 0, 1) := by decide +kernel
theorem dX14_init_160 : decode prog_13_method_65_code 160 = .ok (.iconst (-1), 1) := by decide +kernel
theorem dX14_init_161 : decode prog_13_method_65_code 161 = .ok (.putfield 370, 3) := by decide +kernel
theorem dX14_init_164 : decode prog_13_method_65_code 164 = .ok (.aload_n 0, 1) := by decide +kernel
theorem dX14_init_165 : decode prog_13_method_65_code 165 = .ok (.sipush 30000, 3) := by decide +kernel
theorem dX14_init_168 : decode prog_13_method_65_code 168 = .ok (.newarray .int, 2) := by decide +kernel
theorem dX14_init_170 : decode prog_13_method_65_code 170 = .ok (.putfield 359, 3) := by decide +kernel
theorem dX14_init_173 : decode prog_13_method_65_code 173 = .ok (.aload_n 0, 1) := by decide +kernel
theorem dX14_init_174 : decode prog_13_method_65_code 174 = .ok (.new 31, 3) := by decide +kernel
theorem dX14_init_177 : decode prog_13_method_65_code 177 = .ok (.dup, 1) := by decide +kernel
theorem dX14_init_178 : decode prog_13_method_65_code 178 = .ok (.invokespecial 462, 3) := by decide +kernel
theorem dX14_init_181 : decode prog_13_method_65_code 181 = .ok (.putfield 432, 3) := by decide +kernel
theorem dX14_init_184 : decode prog_13_method_65_code 184 = .ok (.aload_n 0, 1) := by decide +kernel
theorem dX14_init_185 : decode prog_13_method_65_code 185 = .ok (.bipush 8, 2) := by decide +kernel
theorem dX14_init_187 : decode prog_13_method_65_code 187 = .ok (.newarray .int, 2) := by decide +kernel
theorem dX14_init_189 : decode prog_13_method_65_code 189 = .ok (.putfield 471, 3) := by decide +kernel
theorem dX14_init_192 : decode prog_13_method_65_code 192 = .ok (.aload_n 0, 1) := by decide +kernel
theorem dX14_init_193 : decode prog_13_method_65_code 193 = .ok (.new 31, 3) := by decide +kernel
theorem dX14_init_196 : decode prog_13_method_65_code 196 = .ok (.dup, 1) := by decide +kernel
theorem dX14_init_197 : decode prog_13_method_65_code 197 = .ok (.invokespecial 462, 3) := by decide +kernel
theorem dX14_init_200 : decode prog_13_method_65_code 200 = .ok (.putfield 474, 3) := by decide +kernel
theorem dX14_init_203 : decode prog_13_method_65_code 203 = .ok (.aload_n 0, 1) := by decide +kernel
theorem dX14_init_204 : decode prog_13_method_65_code 204 = .ok (.sipush 200, 3) := by decide +kernel
theorem dX14_init_207 : decode prog_13_method_65_code 207 = .ok (.anewarray 289, 3) := by decide +kernel
theorem dX14_init_210 : decode prog_13_method_65_code 210 = .ok (.putfield 477, 3) := by decide +kernel
theorem dX14_init_213 : decode prog_13_method_65_code 213 = .ok (.aload_n 0, 1) := by decide +kernel
theorem dX14_init_214 : decode prog_13_method_65_code 214 = .ok (.sipush 200, 3) := by decide +kernel
theorem dX14_init_217 : decode prog_13_method_65_code 217 = .ok (.newarray .int, 2) := by decide +kernel
theorem dX14_init_219 : decode prog_13_method_65_code 219 = .ok (.putfield 481, 3) := by decide +kernel
theorem dX14_init_222 : decode prog_13_method_65_code 222 = .ok (.iconst 0, 1) := by decide +kernel
theorem dX14_init_223 : decode prog_13_method_65_code 223 = .ok (.istore_n 1, 1) := by decide +kernel
theorem dX14_init_224 : decode prog_13_method_65_code 224 = .ok (.iload_n 1, 1) := by decide +kernel
theorem dX14_init_225 : decode prog_13_method_65_code 225 = .ok (.sipush 200, 3) := by decide +kernel
theorem dX14_init_228 : decode prog_13_method_65_code 228 = .ok (.if_icmp .ge 22, 3) := by decide +kernel
theorem dX14_init_231 : decode prog_13_method_65_code 231 = .ok (.aload_n 0, 1) := by decide +kernel
theorem dX14_init_232 : decode prog_13_method_65_code 232 = .ok (.getfield 477, 3) := by decide +kernel
theorem dX14_init_235 : decode prog_13_method_65_code 235 = .ok (.iload_n 1, 1) := by decide +kernel
theorem dX14_init_236 : decode prog_13_method_65_code 236 = .ok (.new 289, 3) := by decide +kernel
theorem dX14_init_239 : decode prog_13_method_65_code 239 = .ok (.dup, 1) := by decide +kernel
theorem dX14_init_240 : decode prog_13_method_65_code 240 = .ok (.invokespecial 463, 3) := by decide +kernel
theorem dX14_init_243 : decode prog_13_method_65_code 243 = .ok (.aastore, 1) := by decide +kernel
theorem dX14_init_244 : decode prog_13_method_65_code 244 = .ok (.iinc 1 1, 3) := by decide +kernel
theorem dX14_init_247 : decode prog_13_method_65_code 247 = .ok (.goto (-23), 3) := by decide +kernel
theorem dX14_init_250 : decode prog_13_method_65_code 250 = .ok (.return_, 1) := by decide +kernel
