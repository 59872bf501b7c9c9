theorem dX10_join_185 : decode prog_1_method_40_code 185 = .ok (.getfield 299, 3) := by decide +kernel
theorem dX10_join_188 : decode prog_1_method_40_code 188 = .ok (.aload 5, 2) := by decide +kernel
theorem dX10_join_190 : decode prog_1_method_40_code 190 = .ok (.getfield 252, 3) := by decide +kernel
theorem dX10_join_193 : decode prog_1_method_40_code 193 = .ok (.iload 6, 2) := by decide +kernel
theorem dX10_join_195 : decode prog_1_method_40_code 195 = .ok (.aaload, 1) := by decide +kernel
theorem dX10_join_196 : decode prog_1_method_40_code 196 = .ok (.aload 5, 2) := by decide +kernel
theorem dX10_join_198 : decode prog_1_method_40_code 198 = .ok (.getfield 252, 3) := by decide +kernel
theorem dX10_join_201 : decode prog_1_method_40_code 201 = .ok (.iload 7, 2) := by decide +kernel
theorem dX10_join_203 : decode prog_1_method_40_code 203 = .ok (.aaload, 1) := by decide +kernel
theorem dX10_join_204 : decode prog_1_method_40_code 204 = .ok (.invokevirtual 179, 3) := by decide +kernel
theorem dX10_join_207 : decode prog_1_method_40_code 207 = .ok (.ifCond .eq 27, 3) := by decide +kernel
theorem dX10_join_210 : decode prog_1_method_40_code 210 = .ok (.aload_n 0, 1) := by decide +kernel
theorem dX10_join_211 : decode prog_1_method_40_code 211 = .ok (.aload 5, 2) := by decide +kernel
theorem dX10_join_213 : decode prog_1_method_40_code 213 = .ok (.getfield 157, 3) := by decide +kernel
theorem dX10_join_216 : decode prog_1_method_40_code 216 = .ok (.iload 6, 2) := by decide +kernel
theorem dX10_join_218 : decode prog_1_method_40_code 218 = .ok (.iaload, 1) := by decide +kernel
theorem dX10_join_219 : decode prog_1_method_40_code 219 = .ok (.invokevirtual 302, 3) := by decide +kernel
theorem dX10_join_222 : decode prog_1_method_40_code 222 = .ok (.aload_n 0, 1) := by decide +kernel
theorem dX10_join_223 : decode prog_1_method_40_code 223 = .ok (.aload 5, 2) := by decide +kernel
theorem dX10_join_225 : decode prog_1_method_40_code 225 = .ok (.getfield 157, 3) := by decide +kernel
theorem dX10_join_228 : decode prog_1_method_40_code 228 = .ok (.iload 7, 2) := by decide +kernel
theorem dX10_join_230 : decode prog_1_method_40_code 230 = .ok (.iaload, 1) := by decide +kernel
theorem dX10_join_231 : decode prog_1_method_40_code 231 = .ok (.invokevirtual 302, 3) := by decide +kernel
theorem dX10_join_234 : decode prog_1_method_40_code 234 = .ok (.iinc 7 1, 3) := by decide +kernel
theorem dX10_join_237 : decode prog_1_method_40_code 237 = .ok (.goto (-114), 3) := by decide +kernel
theorem dX10_join_240 : decode prog_1_method_40_code 240 = .ok (.iinc 6 1, 3) := by decide +kernel
theorem dX10_join_243 : decode prog_1_method_40_code 243 = .ok (.goto (-160), 3) := by decide +kernel
theorem dX10_join_246 : decode prog_1_method_40_code 246 = .ok (.iconst 0, 1) := by decide +kernel
theorem dX10_join_247 : decode prog_1_method_40_code 247 = .ok (.ireturn, 1) := by decide +kernel
theorem dX11_init_0 : decode prog_14_method_1_code 0 = .ok (.aload_n 0, 1) := by decide +kernel
theorem dX11_init_1 : decode prog_14_method_1_code 1 = .ok (.invokespecial 3, 3) := by decide +kernel
theorem dX11_init_4 : decode prog_14_method_1_code 4 = .ok (.aload_n 0, 1) := by decide +kernel
theorem dX11_init_5 : decode prog_14_method_1_code 5 = .ok (.bipush 8, 2) := by decide +kernel
theorem dX11_init_7 : decode prog_14_method_1_code 7 = .ok (.newarray .long, 2) := by decide +kernel
theorem dX11_init_9 : decode prog_14_method_1_code 9 = .ok (.putfield 9, 3) := by decide +kernel
theorem dX11_init_12 : decode prog_14_method_1_code 12 = .ok (.aload_n 0, 1) := by decide +kernel
theorem dX11_init_13 : decode prog_14_method_1_code 13 = .ok (.bipush 8, 2) := by decide +kernel
theorem dX11_init_15 : decode prog_14_method_1_code 15 = .ok (.newarray .long, 2) := by decide +kernel
theorem dX11_init_17 : decode prog_14_method_1_code 17 = .ok (.putfield 15, 3) := by decide +kernel
theorem dX11_init_20 : decode prog_14_method_1_code 20 = .ok (.return_, 1) := by decide +kernel
theorem dX11_take_0 : decode prog_14_method_2_code 0 = .ok (.aload_n 0, 1) := by decide +kernel
theorem dX11_take_1 : decode prog_14_method_2_code 1 = .ok (.getfield 9, 3) := by decide +kernel
theorem dX11_take_4 : decode prog_14_method_2_code 4 = .ok (.aload_n 1, 1) := by decide +kernel
theorem dX11_take_5 : decode prog_14_method_2_code 5 = .ok (.getfield 9, 3) := by decide +kernel
theorem dX11_take_8 : decode prog_14_method_2_code 8 = .ok (.invokestatic 18, 3) := by decide +kernel
theorem dX11_take_11 : decode prog_14_method_2_code 11 = .ok (.aload_n 0, 1) := by decide +kernel
theorem dX11_take_12 : decode prog_14_method_2_code 12 = .ok (.getfield 15, 3) := by decide +kernel
theorem dX11_take_15 : decode prog_14_method_2_code 15 = .ok (.aload_n 1, 1) := by decide +kernel
theorem dX11_take_16 : decode prog_14_method_2_code 16 = .ok (.getfield 15, 3) := by decide +kernel
theorem dX11_take_19 : decode prog_14_method_2_code 19 = .ok (.invokestatic 18, 3) := by decide +kernel
theorem dX11_take_22 : decode prog_14_method_2_code 22 = .ok (.return_, 1) := by decide +kernel
theorem dX12_init_0 : decode prog_15_method_1_code 0 = .ok (.aload_n 0, 1) := by decide +kernel
theorem dX12_init_1 : decode prog_15_method_1_code 1 = .ok (.invokespecial 3, 3) := by decide +kernel
theorem dX12_init_4 : decode prog_15_method_1_code 4 = .ok (.aload_n 0, 1) := by decide +kernel
theorem dX12_init_5 : decode prog_15_method_1_code 5 = .ok (.bipush 8, 2) := by decide +kernel
theorem dX12_init_7 : decode prog_15_method_1_code 7 = .ok (.newarray .int, 2) := by decide +kernel
theorem dX12_init_9 : decode prog_15_method_1_code 9 = .ok (.putfield 9, 3) := by decide +kernel
theorem dX12_init_12 : decode prog_15_method_1_code 12 = .ok (.aload_n 0, 1) := by decide +kernel
theorem dX12_init_13 : decode prog_15_method_1_code 13 = .ok (.bipush 40, 2) := by decide +kernel
theorem dX12_init_15 : decode prog_15_method_1_code 15 = .ok (.newarray .int, 2) := by decide +kernel
theorem dX12_init_17 : decode prog_15_method_1_code 17 = .ok (.putfield 15, 3) := by decide +kernel
theorem dX12_init_20 : decode prog_15_method_1_code 20 = .ok (.aload_n 0, 1) := by decide +kernel
theorem dX12_init_21 : decode prog_15_method_1_code 21 = .ok (.bipush 40, 2) := by decide +kernel
theorem dX12_init_23 : decode prog_15_method_1_code 23 = .ok (.newarray .int, 2) := by decide +kernel
theorem dX12_init_25 : decode prog_15_method_1_code 25 = .ok (.putfield 18, 3) := by decide +kernel
theorem dX12_init_28 : decode prog_15_method_1_code 28 = .ok (.return_, 1) := by decide +kernel
theorem dX12_take_0 : decode prog_15_method_2_code 0 = .ok (.aload_n 0, 1) := by decide +kernel
theorem dX12_take_1 : decode prog_15_method_2_code 1 = .ok (.aload_n 1, 1) := by decide +kernel
theorem dX12_take_2 : decode prog_15_method_2_code 2 = .ok (.getfield 21, 3) := by decide +kernel
theorem dX12_take_5 : decode prog_15_method_2_code 5 = .ok (.putfield 21, 3) := by decide +kernel
theorem dX12_take_8 : decode prog_15_method_2_code 8 = .ok (.aload_n 0, 1) := by decide +kernel
theorem dX12_take_9 : decode prog_15_method_2_code 9 = .ok (.aload_n 1, 1) := by decide +kernel
theorem dX12_take_10 : decode prog_15_method_2_code 10 = .ok (.getfield 25, 3) := by decide +kernel
theorem dX12_take_13 : decode prog_15_method_2_code 13 = .ok (.putfield 25, 3) := by decide +kernel
theorem dX12_take_16 : decode prog_15_method_2_code 16 = .ok (.aload_n 0, 1) := by decide +kernel
theorem dX12_take_17 : decode prog_15_method_2_code 17 = .ok (.aload_n 1, 1) := by decide +kernel
theorem dX12_take_18 : decode prog_15_method_2_code 18 = .ok (.getfield 28, 3) := by decide +kernel
theorem dX12_take_21 : decode prog_15_method_2_code 21 = .ok (.putfield 28, 3) := by decide +kernel
theorem dX12_take_24 : decode prog_15_method_2_code 24 = .ok (.aload_n 0, 1) := by decide +kernel
theorem dX12_take_25 : decode prog_15_method_2_code 25 = .ok (.aload_n 1, 1) := by decide +kernel
theorem dX12_take_26 : decode prog_15_method_2_code 26 = .ok (.getfield 31, 3) := by decide +kernel
theorem dX12_take_29 : decode prog_15_method_2_code 29 = .ok (.putfield 31, 3) := by decide +kernel
theorem dX12_take_32 : decode prog_15_method_2_code 32 = .ok (.iconst 0, 1) := by decide +kernel
theorem dX12_take_33 : decode prog_15_method_2_code 33 = .ok (.istore_n 2, 1) := by decide +kernel
theorem dX12_take_34 : decode prog_15_method_2_code 34 = .ok (.iload_n 2, 1) := by decide +kernel
theorem dX12_take_35 : decode prog_15_method_2_code 35 = .ok (.aload_n 0, 1) := by decide +kernel
theorem dX12_take_36 : decode prog_15_method_2_code 36 = .ok (.getfield 31, 3) := by decide +kernel
theorem dX12_take_39 : decode prog_15_method_2_code 39 = .ok (.if_icmp .ge 21, 3) := by decide +kernel
theorem dX12_take_42 : decode prog_15_method_2_code 42 = .ok (.aload_n 0, 1) := by decide +kernel
theorem dX12_take_43 : decode prog_15_method_2_code 43 = .ok (.getfield 9, 3) := by decide +kernel
theorem dX12_take_46 : decode prog_15_method_2_code 46 = .ok (.iload_n 2, 1) := by decide +kernel
theorem dX12_take_47 : decode prog_15_method_2_code 47 = .ok (.aload_n 1, 1) := by decide +kernel
theorem dX12_take_48 : decode prog_15_method_2_code 48 = .ok (.getfield 9, 3) := by decide +kernel
theorem dX12_take_51 : decode prog_15_method_2_code 51 = .ok (.iload_n 2, 1) := by decide +kernel
theorem dX12_take_52 : decode prog_15_method_2_code 52 = .ok (.iaload, 1) := by decide +kernel
theorem dX12_take_53 : decode prog_15_method_2_code 53 = .ok (.iastore, 1) := by decide +kernel
theorem dX12_take_54 : decode prog_15_method_2_code 54 = .ok (.iinc 2 1, 3) := by decide +kernel
theorem dX12_take_57 : decode prog_15_method_2_code 57 = .ok (.goto (-23), 3) := by decide +kernel
theorem dX12_take_60 : decode prog_15_method_2_code 60 = .ok (.iconst 0, 1) := by decide +kernel
theorem dX12_take_61 : decode prog_15_method_2_code 61 = .ok (.istore_n 2, 1) := by decide +kernel
theorem dX12_take_62 : decode prog_15_method_2_code 62 = .ok (.iload_n 2, 1) := by decide +kernel
theorem dX12_take_63 : decode prog_15_method_2_code 63 = .ok (.aload_n 0, 1) := by decide +kernel
theorem dX12_take_64 : decode prog_15_method_2_code 64 = .ok (.getfield 28, 3) := by decide +kernel
theorem dX12_take_67 : decode prog_15_method_2_code 67 = .ok (.if_icmp .ge 33, 3) := by decide +kernel
theorem dX12_take_70 : decode prog_15_method_2_code 70 = .ok (.aload_n 0, 1) := by decide +kernel
theorem dX12_take_71 : decode prog_15_method_2_code 71 = .ok (.getfield 15, 3) := by decide +kernel
theorem dX12_take_74 : decode prog_15_method_2_code 74 = .ok (.iload_n 2, 1) := by decide +kernel
theorem dX12_take_75 : decode prog_15_method_2_code 75 = .ok (.aload_n 1, 1) := by decide +kernel
theorem dX12_take_76 : decode prog_15_method_2_code 76 = .ok (.getfield 15, 3) := by decide +kernel
theorem dX12_take_79 : decode prog_15_method_2_code 79 = .ok (.iload_n 2, 1) := by decide +kernel
theorem dX12_take_80 : decode prog_15_method_2_code 80 = .ok (.iaload, 1) := by decide +kernel
theorem dX12_take_81 : decode prog_15_method_2_code 81 = .ok (.iastore, 1) := by decide +kernel
theorem dX12_take_82 : decode prog_15_method_2_code 82 = .ok (.aload_n 0, 1) := by decide +kernel
theorem dX12_take_83 : decode prog_15_method_2_code 83 = .ok (.getfield 18, 3) := by decide +kernel
theorem dX12_take_86 : decode prog_15_method_2_code 86 = .ok (.iload_n 2, 1) := by decide +kernel
theorem dX12_take_87 : decode prog_15_method_2_code 87 = .ok (.aload_n 1, 1) := by decide +kernel
theorem dX12_take_88 : decode prog_15_method_2_code 88 = .ok (.getfield 18, 3) := by decide +kernel
theorem dX12_take_91 : decode prog_15_method_2_code 91 = .ok (.iload_n 2, 1) := by decide +kernel
theorem dX12_take_92 : decode prog_15_method_2_code 92 = .ok (.iaload, 1) := by decide +kernel
theorem dX12_take_93 : decode prog_15_method_2_code 93 = .ok (.iastore, 1) := by decide +kernel
theorem dX12_take_94 : decode prog_15_method_2_code 94 = .ok (.iinc 2 1, 3) := by decide +kernel
theorem dX12_take_97 : decode prog_15_method_2_code 97 = .ok (.goto (-35), 3) := by decide +kernel
theorem dX12_take_100 : decode prog_15_method_2_code 100 = .ok (.return_, 1) := by decide +kernel
theorem dX12_begin_0 : decode prog_15_method_3_code 0 = .ok (.aload_n 0, 1) := by decide +kernel
theorem dX12_begin_1 : decode prog_15_method_3_code 1 = .ok (.iload_n 1, 1) := by decide +kernel
theorem dX12_begin_2 : decode prog_15_method_3_code 2 = .ok (.putfield 25, 3) := by decide +kernel
theorem dX12_begin_5 : decode prog_15_method_3_code 5 = .ok (.aload_n 0, 1) := by decide +kernel
theorem dX12_begin_6 : decode prog_15_method_3_code 6 = .ok (.iconst 0, 1) := by decide +kernel
theorem dX12_begin_7 : decode prog_15_method_3_code 7 = .ok (.putfield 28, 3) := by decide +kernel
theorem dX12_begin_10 : decode prog_15_method_3_code 10 = .ok (.aload_n 0, 1) := by decide +kernel
theorem dX12_begin_11 : decode prog_15_method_3_code 11 = .ok (.iconst 0, 1) := by decide +kernel
theorem dX12_begin_12 : decode prog_15_method_3_code 12 = .ok (.putfield 31, 3) := by decide +kernel
theorem dX12_begin_15 : decode prog_15_method_3_code 15 = .ok (.return_, 1) := by decide +kernel
theorem dX12_add_0 : decode prog_15_method_4_code 0 = .ok (.aload_n 0, 1) := by decide +kernel
theorem dX12_add_1 : decode prog_15_method_4_code 1 = .ok (.getfield 15, 3) := by decide +kernel
theorem dX12_add_4 : decode prog_15_method_4_code 4 = .ok (.aload_n 0, 1) := by decide +kernel
theorem dX12_add_5 : decode prog_15_method_4_code 5 = .ok (.getfield 28, 3) := by decide +kernel
theorem dX12_add_8 : decode prog_15_method_4_code 8 = .ok (.iload_n 1, 1) := by decide +kernel
theorem dX12_add_9 : decode prog_15_method_4_code 9 = .ok (.iastore, 1) := by decide +kernel
theorem dX12_add_10 : decode prog_15_method_4_code 10 = .ok (.aload_n 0, 1) := by decide +kernel
theorem dX12_add_11 : decode prog_15_method_4_code 11 = .ok (.getfield 18, 3) := by decide +kernel
theorem dX12_add_14 : decode prog_15_method_4_code 14 = .ok (.aload_n 0, 1) := by decide +kernel
theorem dX12_add_15 : decode prog_15_method_4_code 15 = .ok (.getfield 28, 3) := by decide +kernel
theorem dX12_add_18 : decode prog_15_method_4_code 18 = .ok (.iload_n 2, 1) := by decide +kernel
theorem dX12_add_19 : decode prog_15_method_4_code 19 = .ok (.iastore, 1) := by decide +kernel
theorem dX12_add_20 : decode prog_15_method_4_code 20 = .ok (.aload_n 0, 1) := by decide +kernel
theorem dX12_add_21 : decode prog_15_method_4_code 21 = .ok (.dup, 1) := by decide +kernel
theorem dX12_add_22 : decode prog_15_method_4_code 22 = .ok (.getfield 28, 3) := by decide +kernel
theorem dX12_add_25 : decode prog_15_method_4_code 25 = .ok (.iconst 1, 1) := by decide +kernel
theorem dX12_add_26 : decode prog_15_method_4_code 26 = .ok (.iadd, 1) := by decide +kernel
theorem dX12_add_27 : decode prog_15_method_4_code 27 = .ok (.putfield 28, 3) := by decide +kernel
theorem dX12_add_30 : decode prog_15_method_4_code 30 = .ok (.return_, 1) := by decide +kernel
theorem dX12_endRing_0 : decode prog_15_method_5_code 0 = .ok (.aload_n 0, 1) := by decide +kernel
theorem dX12_endRing_1 : decode prog_15_method_5_code 1 = .ok (.getfield 9, 3) := by decide +kernel
theorem dX12_endRing_4 : decode prog_15_method_5_code 4 = .ok (.aload_n 0, 1) := by decide +kernel
theorem dX12_endRing_5 : decode prog_15_method_5_code 5 = .ok (.getfield 31, 3) := by decide +kernel
theorem dX12_endRing_8 : decode prog_15_method_5_code 8 = .ok (.aload_n 0, 1) := by decide +kernel
theorem dX12_endRing_9 : decode prog_15_method_5_code 9 = .ok (.getfield 28, 3) := by decide +kernel
theorem dX12_endRing_12 : decode prog_15_method_5_code 12 = .ok (.iastore, 1) := by decide +kernel
theorem dX12_endRing_13 : decode prog_15_method_5_code 13 = .ok (.aload_n 0, 1) := by decide +kernel
theorem dX12_endRing_14 : decode prog_15_method_5_code 14 = .ok (.dup, 1) := by decide +kernel
theorem dX12_endRing_15 : decode prog_15_method_5_code 15 = .ok (.getfield 31, 3) := by decide +kernel
theorem dX12_endRing_18 : decode prog_15_method_5_code 18 = .ok (.iconst 1, 1) := by decide +kernel
theorem dX12_endRing_19 : decode prog_15_method_5_code 19 = .ok (.iadd, 1) := by decide +kernel
theorem dX12_endRing_20 : decode prog_15_method_5_code 20 = .ok (.putfield 31, 3) := by decide +kernel
theorem dX12_endRing_23 : decode prog_15_method_5_code 23 = .ok (.return_, 1) := by decide +kernel
theorem dX12_beginOf_0 : decode prog_15_method_6_code 0 = .ok (.iload_n 1, 1) := by decide +kernel
theorem dX12_beginOf_1 : decode prog_15_method_6_code 1 = .ok (.ifCond .ne 7, 3) := by decide +kernel
theorem dX12_beginOf_4 : decode prog_15_method_6_code 4 = .ok (.iconst 0, 1) := by decide +kernel
theorem dX12_beginOf_5 : decode prog_15_method_6_code 5 = .ok (.goto 11, 3) := by decide +kernel
theorem dX12_beginOf_8 : decode prog_15_method_6_code 8 = .ok (.aload_n 0, 1) := by decide +kernel
theorem dX12_beginOf_9 : decode prog_15_method_6_code 9 = .ok (.getfield 9, 3) := by decide +kernel
theorem dX12_beginOf_12 : decode prog_15_method_6_code 12 = .ok (.iload_n 1, 1) := by decide +kernel
theorem dX12_beginOf_13 : decode prog_15_method_6_code 13 = .ok (.iconst 1, 1) := by decide +kernel
theorem dX12_beginOf_14 : decode prog_15_method_6_code 14 = .ok (.isub, 1) := by decide +kernel
theorem dX12_beginOf_15 : decode prog_15_method_6_code 15 = .ok (.iaload, 1) := by decide +kernel
theorem dX12_beginOf_16 : decode prog_15_method_6_code 16 = .ok (.ireturn, 1) := by decide +kernel
theorem dX12_isLike_0 : decode prog_15_method_7_code 0 = .ok (.aload_n 0, 1) := by decide +kernel
theorem dX12_isLike_1 : decode prog_15_method_7_code 1 = .ok (.getfield 15, 3) := by decide +kernel
theorem dX12_isLike_4 : decode prog_15_method_7_code 4 = .ok (.iload_n 1, 1) := by decide +kernel
theorem dX12_isLike_5 : decode prog_15_method_7_code 5 = .ok (.iaload, 1) := by decide +kernel
theorem dX12_isLike_6 : decode prog_15_method_7_code 6 = .ok (.aload_n 0, 1) := by decide +kernel
theorem dX12_isLike_7 : decode prog_15_method_7_code 7 = .ok (.getfield 15, 3) := by decide +kernel
theorem dX12_isLike_10 : decode prog_15_method_7_code 10 = .ok (.iload_n 2, 1) := by decide +kernel
theorem dX12_isLike_11 : decode prog_15_method_7_code 11 = .ok (.iaload, 1) := by decide +kernel
theorem dX12_isLike_12 : decode prog_15_method_7_code 12 = .ok (.if_icmp .ne 22, 3) := by decide +kernel
theorem dX12_isLike_15 : decode prog_15_method_7_code 15 = .ok (.aload_n 0, 1) := by decide +kernel
theorem dX12_isLike_16 : decode prog_15_method_7_code 16 = .ok (.getfield 18, 3) := by decide +kernel
theorem dX12_isLike_19 : decode prog_15_method_7_code 19 = .ok (.iload_n 1, 1) := by decide +kernel
theorem dX12_isLike_20 : decode prog_15_method_7_code 20 = .ok (.iaload, 1) := by decide +kernel
theorem dX12_isLike_21 : decode prog_15_method_7_code 21 = .ok (.aload_n 0, 1) := by decide +kernel
theorem dX12_isLike_22 : decode prog_15_method_7_code 22 = .ok (.getfield 18, 3) := by decide +kernel
theorem dX12_isLike_25 : decode prog_15_method_7_code 25 = .ok (.iload_n 2, 1) := by decide +kernel
theorem dX12_isLike_26 : decode prog_15_method_7_code 26 = .ok (.iaload, 1) := by decide +kernel
theorem dX12_isLike_27 : decode prog_15_method_7_code 27 = .ok (.if_icmp .ne 7, 3) := by decide +kernel
theorem dX12_isLike_30 : decode prog_15_method_7_code 30 = .ok (.iconst 1, 1) := by decide +kernel
theorem dX12_isLike_31 : decode prog_15_method_7_code 31 = .ok (.goto 4, 3) := by decide +kernel
theorem dX12_isLike_34 : decode prog_15_method_7_code 34 = .ok (.iconst 0, 1) := by decide +kernel
theorem dX12_isLike_35 : decode prog_15_method_7_code 35 = .ok (.ireturn, 1) := by decide +kernel
theorem dX12_isWay_0 : decode prog_15_method_8_code 0 = .ok (.aload_n 0, 1) := by decide +kernel
theorem dX12_isWay_1 : decode prog_15_method_8_code 1 = .ok (.getfield 25, 3) := by decide +kernel
theorem dX12_isWay_4 : decode prog_15_method_8_code 4 = .ok (.ifCond .eq 13, 3) := by decide +kernel
theorem dX12_isWay_7 : decode prog_15_method_8_code 7 = .ok (.iload_n 1, 1) := by decide +kernel
theorem dX12_isWay_8 : decode prog_15_method_8_code 8 = .ok (.iconst 1, 1) := by decide +kernel
theorem dX12_isWay_9 : decode prog_15_method_8_code 9 = .ok (.iadd, 1) := by decide +kernel
theorem dX12_isWay_10 : decode prog_15_method_8_code 10 = .ok (.aload_n 0, 1) := by decide +kernel
theorem dX12_isWay_11 : decode prog_15_method_8_code 11 = .ok (.getfield 28, 3) := by decide +kernel
theorem dX12_isWay_14 : decode prog_15_method_8_code 14 = .ok (.if_icmp .lt 5, 3) := by decide +kernel
theorem dX12_isWay_17 : decode prog_15_method_8_code 17 = .ok (.iconst 0, 1) := by decide +kernel
theorem dX12_isWay_18 : decode prog_15_method_8_code 18 = .ok (.ireturn, 1) := by decide +kernel
theorem dX12_isWay_19 : decode prog_15_method_8_code 19 = .ok (.iconst 0, 1) := by decide +kernel
theorem dX12_isWay_20 : decode prog_15_method_8_code 20 = .ok (.istore_n 2, 1) := by decide +kernel
theorem dX12_isWay_21 : decode prog_15_method_8_code 21 = .ok (.iload_n 2, 1) := by decide +kernel
theorem dX12_isWay_22 : decode prog_15_method_8_code 22 = .ok (.aload_n 0, 1) := by decide +kernel
theorem dX12_isWay_23 : decode prog_15_method_8_code 23 = .ok (.getfield 31, 3) := by decide +kernel
theorem dX12_isWay_26 : decode prog_15_method_8_code 26 = .ok (.if_icmp .ge 23, 3) := by decide +kernel
theorem dX12_isWay_29 : decode prog_15_method_8_code 29 = .ok (.aload_n 0, 1) := by decide +kernel
theorem dX12_isWay_30 : decode prog_15_method_8_code 30 = .ok (.getfield 9, 3) := by decide +kernel
theorem dX12_isWay_33 : decode prog_15_method_8_code 33 = .ok (.iload_n 2, 1) := by decide +kernel
theorem dX12_isWay_34 : decode prog_15_method_8_code 34 = .ok (.iaload, 1) := by decide +kernel
theorem dX12_isWay_35 : decode prog_15_method_8_code 35 = .ok (.iload_n 1, 1) := by decide +kernel
theorem dX12_isWay_36 : decode prog_15_method_8_code 36 = .ok (.iconst 1, 1) := by decide +kernel
theorem dX12_isWay_37 : decode prog_15_method_8_code 37 = .ok (.iadd, 1) := by decide +kernel
theorem dX12_isWay_38 : decode prog_15_method_8_code 38 = .ok (.if_icmp .ne 5, 3) := by decide +kernel
theorem dX12_isWay_41 : decode prog_15_method_8_code 41 = .ok (.iconst 0, 1) := by decide +kernel
theorem dX12_isWay_42 : decode prog_15_method_8_code 42 = .ok (.ireturn, 1) := by decide +kernel
theorem dX12_isWay_43 : decode prog_15_method_8_code 43 = .ok (.iinc 2 1, 3) := by decide +kernel
theorem dX12_isWay_46 : decode prog_15_method_8_code 46 = .ok (.goto (-25), 3) := by decide +kernel
theorem dX12_isWay_49 : decode prog_15_method_8_code 49 = .ok (.iconst 1, 1) := by decide +kernel
theorem dX12_isWay_50 : decode prog_15_method_8_code 50 = .ok (.ireturn, 1) := by decide +kernel
theorem dX12_isOpen_0 : decode prog_15_method_9_code 0 = .ok (.aload_n 0, 1) := by decide +kernel
theorem dX12_isOpen_1 : decode prog_15_method_9_code 1 = .ok (.getfield 25, 3) := by decide +kernel
theorem dX12_isOpen_4 : decode prog_15_method_9_code 4 = .ok (.iconst 1, 1) := by decide +kernel
theorem dX12_isOpen_5 : decode prog_15_method_9_code 5 = .ok (.if_icmp .ne 21, 3) := by decide +kernel
theorem dX12_isOpen_8 : decode prog_15_method_9_code 8 = .ok (.aload_n 0, 1) := by decide +kernel
theorem dX12_isOpen_9 : decode prog_15_method_9_code 9 = .ok (.iconst 0, 1) := by decide +kernel
theorem dX12_isOpen_10 : decode prog_15_method_9_code 10 = .ok (.aload_n 0, 1) := by decide +kernel
theorem dX12_isOpen_11 : decode prog_15_method_9_code 11 = .ok (.getfield 28, 3) := by decide +kernel
theorem dX12_isOpen_14 : decode prog_15_method_9_code 14 = .ok (.iconst 1, 1) := by decide +kernel
theorem dX12_isOpen_15 : decode prog_15_method_9_code 15 = .ok (.isub, 1) := by decide +kernel
theorem dX12_isOpen_16 : decode prog_15_method_9_code 16 = .ok (.invokevirtual 34, 3) := by decide +kernel
theorem dX12_isOpen_19 : decode prog_15_method_9_code 19 = .ok (.ifCond .ne 7, 3) := by decide +kernel
theorem dX12_isOpen_22 : decode prog_15_method_9_code 22 = .ok (.iconst 1, 1) := by decide +kernel
theorem dX12_isOpen_23 : decode prog_15_method_9_code 23 = .ok (.goto 4, 3) := by decide +kernel
theorem dX12_isOpen_26 : decode prog_15_method_9_code 26 = .ok (.iconst 0, 1) := by decide +kernel
theorem dX12_isOpen_27 : decode prog_15_method_9_code 27 = .ok (.ireturn, 1) := by decide +kernel
theorem dX13_init_0 : decode prog_16_method_1_code 0 = .ok (.aload_n 0, 1) := by decide +kernel
theorem dX13_init_1 : decode prog_16_method_1_code 1 = .ok (.invokespecial 3, 3) := by decide +kernel
theorem dX13_init_4 : decode prog_16_method_1_code 4 = .ok (.aload_n 0, 1) := by decide +kernel
theorem dX13_init_5 : decode prog_16_method_1_code 5 = .ok (.sipush 200, 3) := by decide +kernel
theorem dX13_init_8 : decode prog_16_method_1_code 8 = .ok (.anewarray 9, 3) := by decide +kernel
theorem dX13_init_11 : decode prog_16_method_1_code 11 = .ok (.putfield 11, 3) := by decide +kernel
theorem dX13_init_14 : decode prog_16_method_1_code 14 = .ok (.iconst 0, 1) := by decide +kernel
theorem dX13_init_15 : decode prog_16_method_1_code 15 = .ok (.istore_n 1, 1) := by decide +kernel
theorem dX13_init_16 : decode prog_16_method_1_code 16 = .ok (.iload_n 1, 1) := by decide +kernel
theorem dX13_init_17 : decode prog_16_method_1_code 17 = .ok (.sipush 200, 3) := by decide +kernel
theorem dX13_init_20 : decode prog_16_method_1_code 20 = .ok (.if_icmp .ge 22, 3) := by decide +kernel
theorem dX13_init_23 : decode prog_16_method_1_code 23 = .ok (.aload_n 0, 1) := by decide +kernel
theorem dX13_init_24 : decode prog_16_method_1_code 24 = .ok (.getfield 11, 3) := by decide +kernel
theorem dX13_init_27 : decode prog_16_method_1_code 27 = .ok (.iload_n 1, 1) := by decide +kernel
theorem dX13_init_28 : decode prog_16_method_1_code 28 = .ok (.new 9, 3) := by decide +kernel
theorem dX13_init_31 : decode prog_16_method_1_code 31 = .ok (.dup, 1) := by decide +kernel
theorem dX13_init_32 : decode prog_16_method_1_code 32 = .ok (.invokespecial 17, 3) := by decide +kernel
theorem dX13_init_35 : decode prog_16_method_1_code 35 = .ok (.aastore, 1) := by decide +kernel
theorem dX13_init_36 : decode prog_16_method_1_code 36 = .ok (.iinc 1 1, 3) := by decide +kernel
theorem dX13_init_39 : decode prog_16_method_1_code 39 = .ok (.goto (-23), 3) := by decide +kernel
theorem dX13_init_42 : decode prog_16_method_1_code 42 = .ok (.return_, 1) := by decide +kernel
theorem dX13_take_0 : decode prog_16_method_2_code 0 = .ok (.aload_n 0, 1) := by decide +kernel
theorem dX13_take_1 : decode prog_16_method_2_code 1 = .ok (.aload_n 1, 1) := by decide +kernel
theorem dX13_take_2 : decode prog_16_method_2_code 2 = .ok (.getfield 18, 3) := by decide +kernel
theorem dX13_take_5 : decode prog_16_method_2_code 5 = .ok (.putfield 18, 3) := by decide +kernel
theorem dX13_take_8 : decode prog_16_method_2_code 8 = .ok (.iconst 0, 1) := by decide +kernel
theorem dX13_take_9 : decode prog_16_method_2_code 9 = .ok (.istore_n 2, 1) := by decide +kernel
theorem dX13_take_10 : decode prog_16_method_2_code 10 = .ok (.iload_n 2, 1) := by decide +kernel
theorem dX13_take_11 : decode prog_16_method_2_code 11 = .ok (.aload_n 0, 1) := by decide +kernel
theorem dX13_take_12 : decode prog_16_method_2_code 12 = .ok (.getfield 18, 3) := by decide +kernel
theorem dX13_take_15 : decode prog_16_method_2_code 15 = .ok (.if_icmp .ge 24, 3) := by decide +kernel
theorem dX13_take_18 : decode prog_16_method_2_code 18 = .ok (.aload_n 0, 1) := by decide +kernel
theorem dX13_take_19 : decode prog_16_method_2_code 19 = .ok (.getfield 11, 3) := by decide +kernel
theorem dX13_take_22 : decode prog_16_method_2_code 22 = .ok (.iload_n 2, 1) := by decide +kernel
theorem dX13_take_23 : decode prog_16_method_2_code 23 = .ok (.aaload, 1) := by decide +kernel
theorem dX13_take_24 : decode prog_16_method_2_code 24 = .ok (.aload_n 1, 1) := by decide +kernel
theorem dX13_take_25 : decode prog_16_method_2_code 25 = .ok (.getfield 11, 3) := by decide +kernel
theorem dX13_take_28 : decode prog_16_method_2_code 28 = .ok (.iload_n 2, 1) := by decide +kernel
theorem dX13_take_29 : decode prog_16_method_2_code 29 = .ok (.aaload, 1) := by decide +kernel
theorem dX13_take_30 : decode prog_16_method_2_code 30 = .ok (.invokevirtual 22, 3) := by decide +kernel
theorem dX13_take_33 : decode prog_16_method_2_code 33 = .ok (.iinc 2 1, 3) := by decide +kernel
theorem dX13_take_36 : decode prog_16_method_2_code 36 = .ok (.goto (-26), 3) := by decide +kernel
theorem dX13_take_39 : decode prog_16_method_2_code 39 = .ok (.return_, 1) := by decide +kernel
theorem dX13_find_0 : decode prog_16_method_3_code 0 = .ok (.iconst 0, 1) := by decide +kernel
theorem dX13_find_1 : decode prog_16_method_3_code 1 = .ok (.istore_n 2, 1) := by decide +kernel
theorem dX13_find_2 : decode prog_16_method_3_code 2 = .ok (.iload_n 2, 1) := by decide +kernel
theorem dX13_find_3 : decode prog_16_method_3_code 3 = .ok (.aload_n 0, 1) := by decide +kernel
theorem dX13_find_4 : decode prog_16_method_3_code 4 = .ok (.getfield 18, 3) := by decide +kernel
theorem dX13_find_7 : decode prog_16_method_3_code 7 = .ok (.if_icmp .ge 24, 3) := by decide +kernel
theorem dX13_find_10 : decode prog_16_method_3_code 10 = .ok (.aload_n 0, 1) := by decide +kernel
theorem dX13_find_11 : decode prog_16_method_3_code 11 = .ok (.getfield 11, 3) := by decide +kernel
theorem dX13_find_14 : decode prog_16_method_3_code 14 = .ok (.iload_n 2, 1) := by decide +kernel
theorem dX13_find_15 : decode prog_16_method_3_code 15 = .ok (.aaload, 1) := by decide +kernel
theorem dX13_find_16 : decode prog_16_method_3_code 16 = .ok (.getfield 26, 3) := by decide +kernel
theorem dX13_find_19 : decode prog_16_method_3_code 19 = .ok (.iload_n 1, 1) := by decide +kernel
theorem dX13_find_20 : decode prog_16_method_3_code 20 = .ok (.if_icmp .ne 5, 3) := by decide +kernel
theorem dX13_find_23 : decode prog_16_method_3_code 23 = .ok (.iload_n 2, 1) := by decide +kernel
theorem dX13_find_24 : decode prog_16_method_3_code 24 = .ok (.ireturn, 1) := by decide +kernel
theorem dX13_find_25 : decode prog_16_method_3_code 25 = .ok (.iinc 2 1, 3) := by decide +kernel
theorem dX13_find_28 : decode prog_16_method_3_code 28 = .ok (.goto (-26), 3) := by decide +kernel
theorem dX13_find_31 : decode prog_16_method_3_code 31 = .ok (.iconst (-1), 1) := by decide +kernel
theorem dX13_find_32 : decode prog_16_method_3_code 32 = .ok (.ireturn, 1) := by decide +kernel
theorem dX13_add_0 : decode prog_16_method_4_code 0 = .ok (.aload_n 0, 1) := by decide +kernel
theorem dX13_add_1 : decode prog_16_method_4_code 1 = .ok (.getfield 11, 3) := by decide +kernel
theorem dX13_add_4 : decode prog_16_method_4_code 4 = .ok (.aload_n 0, 1) := by decide +kernel
theorem dX13_add_5 : decode prog_16_method_4_code 5 = .ok (.getfield 18, 3) := by decide +kernel
theorem dX13_add_8 : decode prog_16_method_4_code 8 = .ok (.aaload, 1) := by decide +kernel
theorem dX13_add_9 : decode prog_16_method_4_code 9 = .ok (.astore_n 3, 1) := by decide +kernel
theorem dX13_add_10 : decode prog_16_method_4_code 10 = .ok (.aload_n 0, 1) := by decide +kernel
theorem dX13_add_11 : decode prog_16_method_4_code 11 = .ok (.getfield 18, 3) := by decide +kernel
theorem dX13_add_14 : decode prog_16_method_4_code 14 = .ok (.istore 4, 2) := by decide +kernel
theorem dX13_add_16 : decode prog_16_method_4_code 16 = .ok (.iload 4, 2) := by decide +kernel
theorem dX13_add_18 : decode prog_16_method_4_code 18 = .ok (.ifCond .le 41, 3) := by decide +kernel
theorem dX13_add_21 : decode prog_16_method_4_code 21 = .ok (.aload_n 0, 1) := by decide +kernel
theorem dX13_add_22 : decode prog_16_method_4_code 22 = .ok (.getfield 11, 3) := by decide +kernel
theorem dX13_add_25 : decode prog_16_method_4_code 25 = .ok (.iload 4, 2) := by decide +kernel
theorem dX13_add_27 : decode prog_16_method_4_code 27 = .ok (.iconst 1, 1) := by decide +kernel
theorem dX13_add_28 : decode prog_16_method_4_code 28 = .ok (.isub, 1) := by decide +kernel
theorem dX13_add_29 : decode prog_16_method_4_code 29 = .ok (.aaload, 1) := by decide +kernel
theorem dX13_add_30 : decode prog_16_method_4_code 30 = .ok (.getfield 26, 3) := by decide +kernel
theorem dX13_add_33 : decode prog_16_method_4_code 33 = .ok (.iload_n 1, 1) := by decide +kernel
theorem dX13_add_34 : decode prog_16_method_4_code 34 = .ok (.if_icmp .le 25, 3) := by decide +kernel
theorem dX13_add_37 : decode prog_16_method_4_code 37 = .ok (.aload_n 0, 1) := by decide +kernel
theorem dX13_add_38 : decode prog_16_method_4_code 38 = .ok (.getfield 11, 3) := by decide +kernel
theorem dX13_add_41 : decode prog_16_method_4_code 41 = .ok (.iload 4, 2) := by decide +kernel
theorem dX13_add_43 : decode prog_16_method_4_code 43 = .ok (.aload_n 0, 1) := by decide +kernel
theorem dX13_add_44 : decode prog_16_method_4_code 44 = .ok (.getfield 11, 3) := by decide +kernel
theorem dX13_add_47 : decode prog_16_method_4_code 47 = .ok (.iload 4, 2) := by decide +kernel
theorem dX13_add_49 : decode prog_16_method_4_code 49 = .ok (.iconst 1, 1) := by decide +kernel
theorem dX13_add_50 : decode prog_16_method_4_code 50 = .ok (.isub, 1) := by decide +kernel
theorem dX13_add_51 : decode prog_16_method_4_code 51 = .ok (.aaload, 1) := by decide +kernel
theorem dX13_add_52 : decode prog_16_method_4_code 52 = .ok (.aastore, 1) := by decide +kernel
theorem dX13_add_53 : decode prog_16_method_4_code 53 = .ok (.iinc 4 (-1), 3) := by decide +kernel
theorem dX13_add_56 : decode prog_16_method_4_code 56 = .ok (.goto (-40), 3) := by decide +kernel
theorem dX13_add_59 : decode prog_16_method_4_code 59 = .ok (.aload_n 0, 1) := by decide +kernel
theorem dX13_add_60 : decode prog_16_method_4_code 60 = .ok (.getfield 11, 3) := by decide +kernel
theorem dX13_add_63 : decode prog_16_method_4_code 63 = .ok (.iload 4, 2) := by decide +kernel
theorem dX13_add_65 : decode prog_16_method_4_code 65 = .ok (.aload_n 3, 1) := by decide +kernel
theorem dX13_add_66 : decode prog_16_method_4_code 66 = .ok (.aastore, 1) := by decide +kernel
theorem dX13_add_67 : decode prog_16_method_4_code 67 = .ok (.aload_n 3, 1) := by decide +kernel
theorem dX13_add_68 : decode prog_16_method_4_code 68 = .ok (.aload_n 2, 1) := by decide +kernel
theorem dX13_add_69 : decode prog_16_method_4_code 69 = .ok (.invokevirtual 22, 3) := by decide +kernel
theorem dX13_add_72 : decode prog_16_method_4_code 72 = .ok (.aload_n 3, 1) := by decide +kernel
theorem dX13_add_73 : decode prog_16_method_4_code 73 = .ok (.iload_n 1, 1) := by decide +kernel
theorem dX13_add_74 : decode prog_16_method_4_code 74 = .ok (.putfield 26, 3) := by decide +kernel
theorem dX13_add_77 : decode prog_16_method_4_code 77 = .ok (.aload_n 0, 1) := by decide +kernel
theorem dX13_add_78 : decode prog_16_method_4_code 78 = .ok (.dup, 1) := by decide +kernel
theorem dX13_add_79 : decode prog_16_method_4_code 79 = .ok (.getfield 18, 3) := by decide +kernel
theorem dX13_add_82 : decode prog_16_method_4_code 82 = .ok (.iconst 1, 1) := by decide +kernel
theorem dX13_add_83 : decode prog_16_method_4_code 83 = .ok (.iadd, 1) := by decide +kernel
theorem dX13_add_84 : decode prog_16_method_4_code 84 = .ok (.putfield 18, 3) := by decide +kernel
theorem dX13_add_87 : decode prog_16_method_4_code 87 = .ok (.return_, 1) := by decide +kernel
theorem dX13_drop_0 : decode prog_16_method_5_code 0 = .ok (.aload_n 0, 1) := by decide +kernel
theorem dX13_drop_1 : decode prog_16_method_5_code 1 = .ok (.getfield 11, 3) := by decide +kernel
theorem dX13_drop_4 : decode prog_16_method_5_code 4 = .ok (.iload_n 1, 1) := by decide +kernel
theorem dX13_drop_5 : decode prog_16_method_5_code 5 = .ok (.aaload, 1) := by decide +kernel
theorem dX13_drop_6 : decode prog_16_method_5_code 6 = .ok (.astore_n 2, 1) := by decide +kernel
theorem dX13_drop_7 : decode prog_16_method_5_code 7 = .ok (.iload_n 1, 1) := by decide +kernel
theorem dX13_drop_8 : decode prog_16_method_5_code 8 = .ok (.istore_n 3, 1) := by decide +kernel
theorem dX13_drop_9 : decode prog_16_method_5_code 9 = .ok (.iload_n 3, 1) := by decide +kernel
theorem dX13_drop_10 : decode prog_16_method_5_code 10 = .ok (.iconst 1, 1) := by decide +kernel
theorem dX13_drop_11 : decode prog_16_method_5_code 11 = .ok (.iadd, 1) := by decide +kernel
theorem dX13_drop_12 : decode prog_16_method_5_code 12 = .ok (.aload_n 0, 1) := by decide +kernel
theorem dX13_drop_13 : decode prog_16_method_5_code 13 = .ok (.getfield 18, 3) := by decide +kernel
theorem dX13_drop_16 : decode prog_16_method_5_code 16 = .ok (.if_icmp .ge 23, 3) := by decide +kernel
theorem dX13_drop_19 : decode prog_16_method_5_code 19 = .ok (.aload_n 0, 1) := by decide +kernel
theorem dX13_drop_20 : decode prog_16_method_5_code 20 = .ok (.getfield 11, 3) := by decide +kernel
theorem dX13_drop_23 : decode prog_16_method_5_code 23 = .ok (.iload_n 3, 1) := by decide +kernel
theorem dX13_drop_24 : decode prog_16_method_5_code 24 = .ok (.aload_n 0, 1) := by decide +kernel
theorem dX13_drop_25 : decode prog_16_method_5_code 25 = .ok (.getfield 11, 3) := by decide +kernel
theorem dX13_drop_28 : decode prog_16_method_5_code 28 = .ok (.iload_n 3, 1) := by decide +kernel
theorem dX13_drop_29 : decode prog_16_method_5_code 29 = .ok (.iconst 1, 1) := by decide +kernel
theorem dX13_drop_30 : decode prog_16_method_5_code 30 = .ok (.iadd, 1) := by decide +kernel
theorem dX13_drop_31 : decode prog_16_method_5_code 31 = .ok (.aaload, 1) := by decide +kernel
theorem dX13_drop_32 : decode prog_16_method_5_code 32 = .ok (.aastore, 1) := by decide +kernel
theorem dX13_drop_33 : decode prog_16_method_5_code 33 = .ok (.iinc 3 1, 3) := by decide +kernel
theorem dX13_drop_36 : decode prog_16_method_5_code 36 = .ok (.goto (-27), 3) := by decide +kernel
theorem dX13_drop_39 : decode prog_16_method_5_code 39 = .ok (.aload_n 0, 1) := by decide +kernel
theorem dX13_drop_40 : decode prog_16_method_5_code 40 = .ok (.dup, 1) := by decide +kernel
theorem dX13_drop_41 : decode prog_16_method_5_code 41 = .ok (.getfield 18, 3) := by decide +kernel
theorem dX13_drop_44 : decode prog_16_method_5_code 44 = .ok (.iconst 1, 1) := by decide +kernel
theorem dX13_drop_45 : decode prog_16_method_5_code 45 = .ok (.isub, 1) := by decide +kernel
theorem dX13_drop_46 : decode prog_16_method_5_code 46 = .ok (.putfield 18, 3) := by decide +kernel
theorem dX13_drop_49 : decode prog_16_method_5_code 49 = .ok (.aload_n 0, 1) := by decide +kernel
theorem dX13_drop_50 : decode prog_16_method_5_code 50 = .ok (.getfield 11, 3) := by decide +kernel
theorem dX13_drop_53 : decode prog_16_method_5_code 53 = .ok (.aload_n 0, 1) := by decide +kernel
theorem dX13_drop_54 : decode prog_16_method_5_code 54 = .ok (.getfield 18, 3) := by decide +kernel
theorem dX13_drop_57 : decode prog_16_method_5_code 57 = .ok (.aload_n 2, 1) := by decide +kernel
theorem dX13_drop_58 : decode prog_16_method_5_code 58 = .ok (.aastore, 1) := by decide +kernel
theorem dX13_drop_59 : decode prog_16_method_5_code 59 = .ok (.return_, 1) := by decide +kernel
theorem dX14_set_0 : decode prog_13_method_1_code 0 = .ok (.lload_n 1, 1) := by decide +kernel
theorem dX14_set_1 : decode prog_13_method_1_code 1 = .ok (.lstore_n 3, 1) := by decide +kernel
theorem dX14_set_2 : decode prog_13_method_1_code 2 = .ok (.iconst 0, 1) := by decide +kernel
theorem dX14_set_3 : decode prog_13_method_1_code 3 = .ok (.istore 5, 2) := by decide +kernel
theorem dX14_set_5 : decode prog_13_method_1_code 5 = .ok (.iload 5, 2) := by decide +kernel
theorem dX14_set_7 : decode prog_13_method_1_code 7 = .ok (.bipush 8, 2) := by decide +kernel
theorem dX14_set_9 : decode prog_13_method_1_code 9 = .ok (.if_icmp .ge 24, 3) := by decide +kernel
theorem dX14_set_12 : decode prog_13_method_1_code 12 = .ok (.aload_n 0, 1) := by decide +kernel
theorem dX14_set_13 : decode prog_13_method_1_code 13 = .ok (.iload 5, 2) := by decide +kernel
theorem dX14_set_15 : decode prog_13_method_1_code 15 = .ok (.lload_n 3, 1) := by decide +kernel
theorem dX14_set_16 : decode prog_13_method_1_code 16 = .ok (.ldc2_w 3, 3) := by decide +kernel
theorem dX14_set_19 : decode prog_13_method_1_code 19 = .ok (.lrem, 1) := by decide +kernel
theorem dX14_set_20 : decode prog_13_method_1_code 20 = .ok (.lastore, 1) := by decide +kernel
theorem dX14_set_21 : decode prog_13_method_1_code 21 = .ok (.lload_n 3, 1) := by decide +kernel
theorem dX14_set_22 : decode prog_13_method_1_code 22 = .ok (.ldc2_w 3, 3) := by decide +kernel
theorem dX14_set_25 : decode prog_13_method_1_code 25 = .ok (.ldiv, 1) := by decide +kernel
theorem dX14_set_26 : decode prog_13_method_1_code 26 = .ok (.lstore_n 3, 1) := by decide +kernel
theorem dX14_set_27 : decode prog_13_method_1_code 27 = .ok (.iinc 5 1, 3) := by decide +kernel
theorem dX14_set_30 : decode prog_13_method_1_code 30 = .ok (.goto (-25), 3) := by decide +kernel
theorem dX14_set_33 : decode prog_13_method_1_code 33 = .ok (.return_, 1) := by decide +kernel
theorem dX14_copy_0 : decode prog_13_method_2_code 0 = .ok (.iconst 0, 1) := by decide +kernel
theorem dX14_copy_1 : decode prog_13_method_2_code 1 = .ok (.istore_n 2, 1) := by decide +kernel
theorem dX14_copy_2 : decode prog_13_method_2_code 2 = .ok (.iload_n 2, 1) := by decide +kernel
theorem dX14_copy_3 : decode prog_13_method_2_code 3 = .ok (.bipush 8, 2) := by decide +kernel
theorem dX14_copy_5 : decode prog_13_method_2_code 5 = .ok (.if_icmp .ge 15, 3) := by decide +kernel
theorem dX14_copy_8 : decode prog_13_method_2_code 8 = .ok (.aload_n 0, 1) := by decide +kernel
theorem dX14_copy_9 : decode prog_13_method_2_code 9 = .ok (.iload_n 2, 1) := by decide +kernel
theorem dX14_copy_10 : decode prog_13_method_2_code 10 = .ok (.aload_n 1, 1) := by decide +kernel
theorem dX14_copy_11 : decode prog_13_method_2_code 11 = .ok (.iload_n 2, 1) := by decide +kernel
theorem dX14_copy_12 : decode prog_13_method_2_code 12 = .ok (.laload, 1) := by decide +kernel
theorem dX14_copy_13 : decode prog_13_method_2_code 13 = .ok (.lastore, 1) := by decide +kernel
theorem dX14_copy_14 : decode prog_13_method_2_code 14 = .ok (.iinc 2 1, 3) := by decide +kernel
theorem dX14_copy_17 : decode prog_13_method_2_code 17 = .ok (.goto (-15), 3) := by decide +kernel
theorem dX14_copy_20 : decode prog_13_method_2_code 20 = .ok (.return_, 1) := by decide +kernel
theorem dX14_times_0 : decode prog_13_method_3_code 0 = .ok (.lconst 0, 1) := by decide +kernel
theorem dX14_times_1 : decode prog_13_method_3_code 1 = .ok (.lstore_n 3, 1) := by decide +kernel
theorem dX14_times_2 : decode prog_13_method_3_code 2 = .ok (.iconst 0, 1) := by decide +kernel
theorem dX14_times_3 : decode prog_13_method_3_code 3 = .ok (.istore 5, 2) := by decide +kernel
theorem dX14_times_5 : decode prog_13_method_3_code 5 = .ok (.iload 5, 2) := by decide +kernel
theorem dX14_times_7 : decode prog_13_method_3_code 7 = .ok (.bipush 8, 2) := by decide +kernel
theorem dX14_times_9 : decode prog_13_method_3_code 9 = .ok (.if_icmp .ge 62, 3) := by decide +kernel
theorem dX14_times_12 : decode prog_13_method_3_code 12 = .ok (.lload_n 3, 1) := by decide +kernel
theorem dX14_times_13 : decode prog_13_method_3_code 13 = .ok (.lstore 6, 2) := by decide +kernel
theorem dX14_times_15 : decode prog_13_method_3_code 15 = .ok (.iconst 0, 1) := by decide +kernel
theorem dX14_times_16 : decode prog_13_method_3_code 16 = .ok (.istore 8, 2) := by decide +kernel
theorem dX14_times_18 : decode prog_13_method_3_code 18 = .ok (.iload 8, 2) := by decide +kernel
theorem dX14_times_20 : decode prog_13_method_3_code 20 = .ok (.iload 5, 2) := by decide +kernel
theorem dX14_times_22 : decode prog_13_method_3_code 22 = .ok (.if_icmp .gt 26, 3) := by decide +kernel
theorem dX14_times_25 : decode prog_13_method_3_code 25 = .ok (.lload 6, 2) := by decide +kernel
theorem dX14_times_27 : decode prog_13_method_3_code 27 = .ok (.aload_n 1, 1) := by decide +kernel
theorem dX14_times_28 : decode prog_13_method_3_code 28 = .ok (.iload 8, 2) := by decide +kernel
theorem dX14_times_30 : decode prog_13_method_3_code 30 = .ok (.laload, 1) := by decide +kernel
theorem dX14_times_31 : decode prog_13_method_3_code 31 = .ok (.aload_n 2, 1) := by decide +kernel
theorem dX14_times_32 : decode prog_13_method_3_code 32 = .ok (.iload 5, 2) := by decide +kernel
theorem dX14_times_34 : decode prog_13_method_3_code 34 = .ok (.iload 8, 2) := by decide +kernel
theorem dX14_times_36 : decode prog_13_method_3_code 36 = .ok (.isub, 1) := by decide +kernel
theorem dX14_times_37 : decode prog_13_method_3_code 37 = .ok (.laload, 1) := by decide +kernel
theorem dX14_times_38 : decode prog_13_method_3_code 38 = .ok (.lmul, 1) := by decide +kernel
theorem dX14_times_39 : decode prog_13_method_3_code 39 = .ok (.ladd, 1) := by decide +kernel
theorem dX14_times_40 : decode prog_13_method_3_code 40 = .ok (.lstore 6, 2) := by decide +kernel
theorem dX14_times_42 : decode prog_13_method_3_code 42 = .ok (.iinc 8 1, 3) := by decide +kernel
theorem dX14_times_45 : decode prog_13_method_3_code 45 = .ok (.goto (-27), 3) := by decide +kernel
theorem dX14_times_48 : decode prog_13_method_3_code 48 = .ok (.aload_n 0, 1) := by decide +kernel
theorem dX14_times_49 : decode prog_13_method_3_code 49 = .ok (.iload 5, 2) := by decide +kernel
theorem dX14_times_51 : decode prog_13_method_3_code 51 = .ok (.lload 6, 2) := by decide +kernel
theorem dX14_times_53 : decode prog_13_method_3_code 53 = .ok (.ldc2_w 3, 3) := by decide +kernel
theorem dX14_times_56 : decode prog_13_method_3_code 56 = .ok (.lrem, 1) := by decide +kernel
theorem dX14_times_57 : decode prog_13_method_3_code 57 = .ok (.lastore, 1) := by decide +kernel
theorem dX14_times_58 : decode prog_13_method_3_code 58 = .ok (.lload 6, 2) := by decide +kernel
theorem dX14_times_60 : decode prog_13_method_3_code 60 = .ok (.ldc2_w 3, 3) := by decide +kernel
theorem dX14_times_63 : decode prog_13_method_3_code 63 = .ok (.ldiv, 1) := by decide +kernel
theorem dX14_times_64 : decode prog_13_method_3_code 64 = .ok (.lstore_n 3, 1) := by decide +kernel
theorem dX14_times_65 : decode prog_13_method_3_code 65 = .ok (.iinc 5 1, 3) := by decide +kernel
theorem dX14_times_68 : decode prog_13_method_3_code 68 = .ok (.goto (-63), 3) := by decide +kernel
theorem dX14_times_71 : decode prog_13_method_3_code 71 = .ok (.return_, 1) := by decide +kernel
theorem dX14_compare_0 : decode prog_13_method_4_code 0 = .ok (.bipush 7, 2) := by decide +kernel
theorem dX14_compare_2 : decode prog_13_method_4_code 2 = .ok (.istore_n 2, 1) := by decide +kernel
theorem dX14_compare_3 : decode prog_13_method_4_code 3 = .ok (.iload_n 2, 1) := by decide +kernel
theorem dX14_compare_4 : decode prog_13_method_4_code 4 = .ok (.ifCond .lt 35, 3) := by decide +kernel
theorem dX14_compare_7 : decode prog_13_method_4_code 7 = .ok (.aload_n 0, 1) := by decide +kernel
theorem dX14_compare_8 : decode prog_13_method_4_code 8 = .ok (.iload_n 2, 1) := by decide +kernel
theorem dX14_compare_9 : decode prog_13_method_4_code 9 = .ok (.laload, 1) := by decide +kernel
theorem dX14_compare_10 : decode prog_13_method_4_code 10 = .ok (.aload_n 1, 1) := by decide +kernel
theorem dX14_compare_11 : decode prog_13_method_4_code 11 = .ok (.iload_n 2, 1) := by decide +kernel
theorem dX14_compare_12 : decode prog_13_method_4_code 12 = .ok (.laload, 1) := by decide +kernel
theorem dX14_compare_13 : decode prog_13_method_4_code 13 = .ok (.lcmp, 1) := by decide +kernel
theorem dX14_compare_14 : decode prog_13_method_4_code 14 = .ok (.ifCond .eq 19, 3) := by decide +kernel
theorem dX14_compare_17 : decode prog_13_method_4_code 17 = .ok (.aload_n 0, 1) := by decide +kernel
theorem dX14_compare_18 : decode prog_13_method_4_code 18 = .ok (.iload_n 2, 1) := by decide +kernel
theorem dX14_compare_19 : decode prog_13_method_4_code 19 = .ok (.laload, 1) := by decide +kernel
theorem dX14_compare_20 : decode prog_13_method_4_code 20 = .ok (.aload_n 1, 1) := by decide +kernel
theorem dX14_compare_21 : decode prog_13_method_4_code 21 = .ok (.iload_n 2, 1) := by decide +kernel
theorem dX14_compare_22 : decode prog_13_method_4_code 22 = .ok (.laload, 1) := by decide +kernel
theorem dX14_compare_23 : decode prog_13_method_4_code 23 = .ok (.lcmp, 1) := by decide +kernel
theorem dX14_compare_24 : decode prog_13_method_4_code 24 = .ok (.ifCond .ge 7, 3) := by decide +kernel
theorem dX14_compare_27 : decode prog_13_method_4_code 27 = .ok (.iconst (-1), 1) := by decide +kernel
theorem dX14_compare_28 : decode prog_13_method_4_code 28 = .ok (.goto 4, 3) := by decide +kernel
theorem dX14_compare_31 : decode prog_13_method_4_code 31 = .ok (.iconst 1, 1) := by decide +kernel
theorem dX14_compare_32 : decode prog_13_method_4_code 32 = .ok (.ireturn, 1) := by decide +kernel
theorem dX14_compare_33 : decode prog_13_method_4_code 33 = .ok (.iinc 2 (-1), 3) := by decide +kernel
theorem dX14_compare_36 : decode prog_13_method_4_code 36 = .ok (.goto (-33), 3) := by decide +kernel
theorem dX14_compare_39 : decode prog_13_method_4_code 39 = .ok (.iconst 0, 1) := by decide +kernel
theorem dX14_compare_40 : decode prog_13_method_4_code 40 = .ok (.ireturn, 1) := by decide +kernel
theorem dX14_compare__0 : decode prog_13_method_5_code 0 = .ok (.aload_n 0, 1) := by decide +kernel
theorem dX14_compare__1 : decode prog_13_method_5_code 1 = .ok (.getfield 5, 3) := by decide +kernel
theorem dX14_compare__4 : decode prog_13_method_5_code 4 = .ok (.lload_n 1, 1) := by decide +kernel
theorem dX14_compare__5 : decode prog_13_method_5_code 5 = .ok (.invokestatic 9, 3) := by decide +kernel
theorem dX14_compare__8 : decode prog_13_method_5_code 8 = .ok (.aload_n 0, 1) := by decide +kernel
theorem dX14_compare__9 : decode prog_13_method_5_code 9 = .ok (.getfield 13, 3) := by decide +kernel
theorem dX14_compare__12 : decode prog_13_method_5_code 12 = .ok (.lload 7, 2) := by decide +kernel
theorem dX14_compare__14 : decode prog_13_method_5_code 14 = .ok (.invokestatic 9, 3) := by decide +kernel
theorem dX14_compare__17 : decode prog_13_method_5_code 17 = .ok (.aload_n 0, 1) := by decide +kernel
theorem dX14_compare__18 : decode prog_13_method_5_code 18 = .ok (.getfield 16, 3) := by decide +kernel
theorem dX14_compare__21 : decode prog_13_method_5_code 21 = .ok (.aload_n 0, 1) := by decide +kernel
theorem dX14_compare__22 : decode prog_13_method_5_code 22 = .ok (.getfield 5, 3) := by decide +kernel
theorem dX14_compare__25 : decode prog_13_method_5_code 25 = .ok (.aload_n 0, 1) := by decide +kernel
theorem dX14_compare__26 : decode prog_13_method_5_code 26 = .ok (.getfield 13, 3) := by decide +kernel
theorem dX14_compare__29 : decode prog_13_method_5_code 29 = .ok (.invokestatic 19, 3) := by decide +kernel
theorem dX14_compare__32 : decode prog_13_method_5_code 32 = .ok (.aload_n 0, 1) := by decide +kernel
theorem dX14_compare__33 : decode prog_13_method_5_code 33 = .ok (.getfield 5, 3) := by decide +kernel
theorem dX14_compare__36 : decode prog_13_method_5_code 36 = .ok (.lload 5, 2) := by decide +kernel
theorem dX14_compare__38 : decode prog_13_method_5_code 38 = .ok (.invokestatic 9, 3) := by decide +kernel
theorem dX14_compare__41 : decode prog_13_method_5_code 41 = .ok (.aload_n 0, 1) := by decide +kernel
theorem dX14_compare__42 : decode prog_13_method_5_code 42 = .ok (.getfield 13, 3) := by decide +kernel
theorem dX14_compare__45 : decode prog_13_method_5_code 45 = .ok (.lload_n 3, 1) := by decide +kernel
theorem dX14_compare__46 : decode prog_13_method_5_code 46 = .ok (.invokestatic 9, 3) := by decide +kernel
theorem dX14_compare__49 : decode prog_13_method_5_code 49 = .ok (.aload_n 0, 1) := by decide +kernel
theorem dX14_compare__50 : decode prog_13_method_5_code 50 = .ok (.getfield 23, 3) := by decide +kernel
theorem dX14_compare__53 : decode prog_13_method_5_code 53 = .ok (.aload_n 0, 1) := by decide +kernel
theorem dX14_compare__54 : decode prog_13_method_5_code 54 = .ok (.getfield 5, 3) := by decide +kernel
theorem dX14_compare__57 : decode prog_13_method_5_code 57 = .ok (.aload_n 0, 1) := by decide +kernel
theorem dX14_compare__58 : decode prog_13_method_5_code 58 = .ok (.getfield 13, 3) := by decide +kernel
theorem dX14_compare__61 : decode prog_13_method_5_code 61 = .ok (.invokestatic 19, 3) := by decide +kernel
theorem dX14_compare__64 : decode prog_13_method_5_code 64 = .ok (.aload_n 0, 1) := by decide +kernel
theorem dX14_compare__65 : decode prog_13_method_5_code 65 = .ok (.getfield 16, 3) := by decide +kernel
theorem dX14_compare__68 : decode prog_13_method_5_code 68 = .ok (.aload_n 0, 1) := by decide +kernel
theorem dX14_compare__69 : decode prog_13_method_5_code 69 = .ok (.getfield 23, 3) := by decide +kernel
theorem dX14_compare__72 : decode prog_13_method_5_code 72 = .ok (.invokestatic 26, 3) := by decide +kernel
theorem dX14_compare__75 : decode prog_13_method_5_code 75 = .ok (.ireturn, 1) := by decide +kernel
theorem dX14_cross_0 : decode prog_13_method_6_code 0 = .ok (.lload_n 0, 1) := by decide +kernel
theorem dX14_cross_1 : decode prog_13_method_6_code 1 = .ok (.lload 6, 2) := by decide +kernel
theorem dX14_cross_3 : decode prog_13_method_6_code 3 = .ok (.lmul, 1) := by decide +kernel
theorem dX14_cross_4 : decode prog_13_method_6_code 4 = .ok (.lload_n 2, 1) := by decide +kernel
theorem dX14_cross_5 : decode prog_13_method_6_code 5 = .ok (.lload 4, 2) := by decide +kernel
theorem dX14_cross_7 : decode prog_13_method_6_code 7 = .ok (.lmul, 1) := by decide +kernel
theorem dX14_cross_8 : decode prog_13_method_6_code 8 = .ok (.lsub, 1) := by decide +kernel
theorem dX14_cross_9 : decode prog_13_method_6_code 9 = .ok (.lreturn, 1) := by decide +kernel
theorem dX14_dot_0 : decode prog_13_method_7_code 0 = .ok (.lload_n 0, 1) := by decide +kernel
theorem dX14_dot_1 : decode prog_13_method_7_code 1 = .ok (.lload 4, 2) := by decide +kernel
theorem dX14_dot_3 : decode prog_13_method_7_code 3 = .ok (.lmul, 1) := by decide +kernel
theorem dX14_dot_4 : decode prog_13_method_7_code 4 = .ok (.lload_n 2, 1) := by decide +kernel
theorem dX14_dot_5 : decode prog_13_method_7_code 5 = .ok (.lload 6, 2) := by decide +kernel
theorem dX14_dot_7 : decode prog_13_method_7_code 7 = .ok (.lmul, 1) := by decide +kernel
theorem dX14_dot_8 : decode prog_13_method_7_code 8 = .ok (.ladd, 1) := by decide +kernel
theorem dX14_dot_9 : decode prog_13_method_7_code 9 = .ok (.lreturn, 1) := by decide +kernel
theorem dX14_sign_0 : decode prog_13_method_8_code 0 = .ok (.lload_n 0, 1) := by decide +kernel
theorem dX14_sign_1 : decode prog_13_method_8_code 1 = .ok (.lconst 0, 1) := by decide +kernel
theorem dX14_sign_2 : decode prog_13_method_8_code 2 = .ok (.lcmp, 1) := by decide +kernel
theorem dX14_sign_3 : decode prog_13_method_8_code 3 = .ok (.ifCond .le 7, 3) := by decide +kernel
theorem dX14_sign_6 : decode prog_13_method_8_code 6 = .ok (.iconst 1, 1) := by decide +kernel
theorem dX14_sign_7 : decode prog_13_method_8_code 7 = .ok (.goto 14, 3) := by decide +kernel
theorem dX14_sign_10 : decode prog_13_method_8_code 10 = .ok (.lload_n 0, 1) := by decide +kernel
theorem dX14_sign_11 : decode prog_13_method_8_code 11 = .ok (.lconst 0, 1) := by decide +kernel
theorem dX14_sign_12 : decode prog_13_method_8_code 12 = .ok (.lcmp, 1) := by decide +kernel
theorem dX14_sign_13 : decode prog_13_method_8_code 13 = .ok (.ifCond .ge 7, 3) := by decide +kernel
theorem dX14_sign_16 : decode prog_13_method_8_code 16 = .ok (.iconst (-1), 1) := by decide +kernel
theorem dX14_sign_17 : decode prog_13_method_8_code 17 = .ok (.goto 4, 3) := by decide +kernel
theorem dX14_sign_20 : decode prog_13_method_8_code 20 = .ok (.iconst 0, 1) := by decide +kernel
theorem dX14_sign_21 : decode prog_13_method_8_code 21 = .ok (.ireturn, 1) := by decide +kernel
theorem dX14_side_0 : decode prog_13_method_9_code 0 = .ok (.aload_n 0, 1) := by decide +kernel
theorem dX14_side_1 : decode prog_13_method_9_code 1 = .ok (.getfield 30, 3) := by decide +kernel
theorem dX14_side_4 : decode prog_13_method_9_code 4 = .ok (.iload_n 1, 1) := by decide +kernel
theorem dX14_side_5 : decode prog_13_method_9_code 5 = .ok (.iconst 1, 1) := by decide +kernel
theorem dX14_side_6 : decode prog_13_method_9_code 6 = .ok (.iadd, 1) := by decide +kernel
theorem dX14_side_7 : decode prog_13_method_9_code 7 = .ok (.iaload, 1) := by decide +kernel
theorem dX14_side_8 : decode prog_13_method_9_code 8 = .ok (.i2l, 1) := by decide +kernel
theorem dX14_side_9 : decode prog_13_method_9_code 9 = .ok (.aload_n 0, 1) := by decide +kernel
theorem dX14_side_10 : decode prog_13_method_9_code 10 = .ok (.getfield 30, 3) := by decide +kernel
theorem dX14_side_13 : decode prog_13_method_9_code 13 = .ok (.iload_n 1, 1) := by decide +kernel
theorem dX14_side_14 : decode prog_13_method_9_code 14 = .ok (.iaload, 1) := by decide +kernel
theorem dX14_side_15 : decode prog_13_method_9_code 15 = .ok (.i2l, 1) := by decide +kernel
theorem dX14_side_16 : decode prog_13_method_9_code 16 = .ok (.lsub, 1) := by decide +kernel
theorem dX14_side_17 : decode prog_13_method_9_code 17 = .ok (.aload_n 0, 1) := by decide +kernel
theorem dX14_side_18 : decode prog_13_method_9_code 18 = .ok (.getfield 36, 3) := by decide +kernel
theorem dX14_side_21 : decode prog_13_method_9_code 21 = .ok (.iload_n 1, 1) := by decide +kernel
theorem dX14_side_22 : decode prog_13_method_9_code 22 = .ok (.iconst 1, 1) := by decide +kernel
theorem dX14_side_23 : decode prog_13_method_9_code 23 = .ok (.iadd, 1) := by decide +kernel
theorem dX14_side_24 : decode prog_13_method_9_code 24 = .ok (.iaload, 1) := by decide +kernel
theorem dX14_side_25 : decode prog_13_method_9_code 25 = .ok (.i2l, 1) := by decide +kernel
theorem dX14_side_26 : decode prog_13_method_9_code 26 = .ok (.aload_n 0, 1) := by decide +kernel
theorem dX14_side_27 : decode prog_13_method_9_code 27 = .ok (.getfield 36, 3) := by decide +kernel
theorem dX14_side_30 : decode prog_13_method_9_code 30 = .ok (.iload_n 1, 1) := by decide +kernel
theorem dX14_side_31 : decode prog_13_method_9_code 31 = .ok (.iaload, 1) := by decide +kernel
theorem dX14_side_32 : decode prog_13_method_9_code 32 = .ok (.i2l, 1) := by decide +kernel
theorem dX14_side_33 : decode prog_13_method_9_code 33 = .ok (.lsub, 1) := by decide +kernel
theorem dX14_side_34 : decode prog_13_method_9_code 34 = .ok (.iload_n 2, 1) := by decide +kernel
theorem dX14_side_35 : decode prog_13_method_9_code 35 = .ok (.i2l, 1) := by decide +kernel
theorem dX14_side_36 : decode prog_13_method_9_code 36 = .ok (.aload_n 0, 1) := by decide +kernel
theorem dX14_side_37 : decode prog_13_method_9_code 37 = .ok (.getfield 30, 3) := by decide +kernel
theorem dX14_side_40 : decode prog_13_method_9_code 40 = .ok (.iload_n 1, 1) := by decide +kernel
theorem dX14_side_41 : decode prog_13_method_9_code 41 = .ok (.iaload, 1) := by decide +kernel
theorem dX14_side_42 : decode prog_13_method_9_code 42 = .ok (.i2l, 1) := by decide +kernel
theorem dX14_side_43 : decode prog_13_method_9_code 43 = .ok (.lsub, 1) := by decide +kernel
theorem dX14_side_44 : decode prog_13_method_9_code 44 = .ok (.iload_n 3, 1) := by decide +kernel
theorem dX14_side_45 : decode prog_13_method_9_code 45 = .ok (.i2l, 1) := by decide +kernel
theorem dX14_side_46 : decode prog_13_method_9_code 46 = .ok (.aload_n 0, 1) := by decide +kernel
theorem dX14_side_47 : decode prog_13_method_9_code 47 = .ok (.getfield 36, 3) := by decide +kernel
theorem dX14_side_50 : decode prog_13_method_9_code 50 = .ok (.iload_n 1, 1) := by decide +kernel
theorem dX14_side_51 : decode prog_13_method_9_code 51 = .ok (.iaload, 1) := by decide +kernel
theorem dX14_side_52 : decode prog_13_method_9_code 52 = .ok (.i2l, 1) := by decide +kernel
theorem dX14_side_53 : decode prog_13_method_9_code 53 = .ok (.lsub, 1) := by decide +kernel
theorem dX14_side_54 : decode prog_13_method_9_code 54 = .ok (.invokestatic 39, 3) := by decide +kernel
theorem dX14_side_57 : decode prog_13_method_9_code 57 = .ok (.invokestatic 43, 3) := by decide +kernel
theorem dX14_side_60 : decode prog_13_method_9_code 60 = .ok (.ireturn, 1) := by decide +kernel
theorem dX14_isBetween_0 : decode prog_13_method_10_code 0 = .ok (.iload_n 0, 1) := by decide +kernel
theorem dX14_isBetween_1 : decode prog_13_method_10_code 1 = .ok (.iload_n 1, 1) := by decide +kernel
theorem dX14_isBetween_2 : decode prog_13_method_10_code 2 = .ok (.iload_n 2, 1) := by decide +kernel
theorem dX14_isBetween_3 : decode prog_13_method_10_code 3 = .ok (.invokestatic 47, 3) := by decide +kernel
theorem dX14_isBetween_6 : decode prog_13_method_10_code 6 = .ok (.if_icmp .lt 16, 3) := by decide +kernel
theorem dX14_isBetween_9 : decode prog_13_method_10_code 9 = .ok (.iload_n 0, 1) := by decide +kernel
theorem dX14_isBetween_10 : decode prog_13_method_10_code 10 = .ok (.iload_n 1, 1) := by decide +kernel
theorem dX14_isBetween_11 : decode prog_13_method_10_code 11 = .ok (.iload_n 2, 1) := by decide +kernel
theorem dX14_isBetween_12 : decode prog_13_method_10_code 12 = .ok (.invokestatic 53, 3) := by decide +kernel
theorem dX14_isBetween_15 : decode prog_13_method_10_code 15 = .ok (.if_icmp .gt 7, 3) := by decide +kernel
theorem dX14_isBetween_18 : decode prog_13_method_10_code 18 = .ok (.iconst 1, 1) := by decide +kernel
theorem dX14_isBetween_19 : decode prog_13_method_10_code 19 = .ok (.goto 4, 3) := by decide +kernel
theorem dX14_isBetween_22 : decode prog_13_method_10_code 22 = .ok (.iconst 0, 1) := by decide +kernel
theorem dX14_isBetween_23 : decode prog_13_method_10_code 23 = .ok (.ireturn, 1) := by decide +kernel
theorem dX14_isOn_0 : decode prog_13_method_11_code 0 = .ok (.iload_n 2, 1) := by decide +kernel
theorem dX14_isOn_1 : decode prog_13_method_11_code 1 = .ok (.aload_n 0, 1) := by decide +kernel
theorem dX14_isOn_2 : decode prog_13_method_11_code 2 = .ok (.getfield 30, 3) := by decide +kernel
theorem dX14_isOn_5 : decode prog_13_method_11_code 5 = .ok (.iload_n 1, 1) := by decide +kernel
theorem dX14_isOn_6 : decode prog_13_method_11_code 6 = .ok (.iaload, 1) := by decide +kernel
theorem dX14_isOn_7 : decode prog_13_method_11_code 7 = .ok (.aload_n 0, 1) := by decide +kernel
theorem dX14_isOn_8 : decode prog_13_method_11_code 8 = .ok (.getfield 30, 3) := by decide +kernel
theorem dX14_isOn_11 : decode prog_13_method_11_code 11 = .ok (.iload_n 1, 1) := by decide +kernel
theorem dX14_isOn_12 : decode prog_13_method_11_code 12 = .ok (.iconst 1, 1) := by decide +kernel
theorem dX14_isOn_13 : decode prog_13_method_11_code 13 = .ok (.iadd, 1) := by decide +kernel
theorem dX14_isOn_14 : decode prog_13_method_11_code 14 = .ok (.iaload, 1) := by decide +kernel
theorem dX14_isOn_15 : decode prog_13_method_11_code 15 = .ok (.invokestatic 56, 3) := by decide +kernel
theorem dX14_isOn_18 : decode prog_13_method_11_code 18 = .ok (.ifCond .eq 38, 3) := by decide +kernel
theorem dX14_isOn_21 : decode prog_13_method_11_code 21 = .ok (.iload_n 3, 1) := by decide +kernel
theorem dX14_isOn_22 : decode prog_13_method_11_code 22 = .ok (.aload_n 0, 1) := by decide +kernel
theorem dX14_isOn_23 : decode prog_13_method_11_code 23 = .ok (.getfield 36, 3) := by decide +kernel
theorem dX14_isOn_26 : decode prog_13_method_11_code 26 = .ok (.iload_n 1, 1) := by decide +kernel
theorem dX14_isOn_27 : decode prog_13_method_11_code 27 = .ok (.iaload, 1) := by decide +kernel
theorem dX14_isOn_28 : decode prog_13_method_11_code 28 = .ok (.aload_n 0, 1) := by decide +kernel
theorem dX14_isOn_29 : decode prog_13_method_11_code 29 = .ok (.getfield 36, 3) := by decide +kernel
theorem dX14_isOn_32 : decode prog_13_method_11_code 32 = .ok (.iload_n 1, 1) := by decide +kernel
theorem dX14_isOn_33 : decode prog_13_method_11_code 33 = .ok (.iconst 1, 1) := by decide +kernel
theorem dX14_isOn_34 : decode prog_13_method_11_code 34 = .ok (.iadd, 1) := by decide +kernel
theorem dX14_isOn_35 : decode prog_13_method_11_code 35 = .ok (.iaload, 1) := by decide +kernel
theorem dX14_isOn_36 : decode prog_13_method_11_code 36 = .ok (.invokestatic 56, 3) := by decide +kernel
theorem dX14_isOn_39 : decode prog_13_method_11_code 39 = .ok (.ifCond .eq 17, 3) := by decide +kernel
theorem dX14_isOn_42 : decode prog_13_method_11_code 42 = .ok (.aload_n 0, 1) := by decide +kernel
theorem dX14_isOn_43 : decode prog_13_method_11_code 43 = .ok (.iload_n 1, 1) := by decide +kernel
theorem dX14_isOn_44 : decode prog_13_method_11_code 44 = .ok (.iload_n 2, 1) := by decide +kernel
theorem dX14_isOn_45 : decode prog_13_method_11_code 45 = .ok (.iload_n 3, 1) := by decide +kernel
theorem dX14_isOn_46 : decode prog_13_method_11_code 46 = .ok (.invokestatic 60, 3) := by decide +kernel
theorem dX14_isOn_49 : decode prog_13_method_11_code 49 = .ok (.ifCond .ne 7, 3) := by decide +kernel
theorem dX14_isOn_52 : decode prog_13_method_11_code 52 = .ok (.iconst 1, 1) := by decide +kernel
theorem dX14_isOn_53 : decode prog_13_method_11_code 53 = .ok (.goto 4, 3) := by decide +kernel
theorem dX14_isOn_56 : decode prog_13_method_11_code 56 = .ok (.iconst 0, 1) := by decide +kernel
theorem dX14_isOn_57 : decode prog_13_method_11_code 57 = .ok (.ireturn, 1) := by decide +kernel
theorem dX14_isOnRing_0 : decode prog_13_method_12_code 0 = .ok (.aload_n 0, 1) := by decide +kernel
theorem dX14_isOnRing_1 : decode prog_13_method_12_code 1 = .ok (.iload_n 1, 1) := by decide +kernel
theorem dX14_isOnRing_2 : decode prog_13_method_12_code 2 = .ok (.invokevirtual 64, 3) := by decide +kernel
theorem dX14_isOnRing_5 : decode prog_13_method_12_code 5 = .ok (.istore 4, 2) := by decide +kernel
theorem dX14_isOnRing_7 : decode prog_13_method_12_code 7 = .ok (.iload 4, 2) := by decide +kernel
theorem dX14_isOnRing_9 : decode prog_13_method_12_code 9 = .ok (.iconst 1, 1) := by decide +kernel
theorem dX14_isOnRing_10 : decode prog_13_method_12_code 10 = .ok (.iadd, 1) := by decide +kernel
theorem dX14_isOnRing_11 : decode prog_13_method_12_code 11 = .ok (.aload_n 0, 1) := by decide +kernel
theorem dX14_isOnRing_12 : decode prog_13_method_12_code 12 = .ok (.getfield 68, 3) := by decide +kernel
theorem dX14_isOnRing_15 : decode prog_13_method_12_code 15 = .ok (.iload_n 1, 1) := by decide +kernel
theorem dX14_isOnRing_16 : decode prog_13_method_12_code 16 = .ok (.iaload, 1) := by decide +kernel
theorem dX14_isOnRing_17 : decode prog_13_method_12_code 17 = .ok (.if_icmp .ge 22, 3) := by decide +kernel
theorem dX14_isOnRing_20 : decode prog_13_method_12_code 20 = .ok (.aload_n 0, 1) := by decide +kernel
theorem dX14_isOnRing_21 : decode prog_13_method_12_code 21 = .ok (.iload 4, 2) := by decide +kernel
theorem dX14_isOnRing_23 : decode prog_13_method_12_code 23 = .ok (.iload_n 2, 1) := by decide +kernel
theorem dX14_isOnRing_24 : decode prog_13_method_12_code 24 = .ok (.iload_n 3, 1) := by decide +kernel
theorem dX14_isOnRing_25 : decode prog_13_method_12_code 25 = .ok (.invokestatic 71, 3) := by decide +kernel
theorem dX14_isOnRing_28 : decode prog_13_method_12_code 28 = .ok (.ifCond .eq 5, 3) := by decide +kernel
theorem dX14_isOnRing_31 : decode prog_13_method_12_code 31 = .ok (.iconst 1, 1) := by decide +kernel
theorem dX14_isOnRing_32 : decode prog_13_method_12_code 32 = .ok (.ireturn, 1) := by decide +kernel
theorem dX14_isOnRing_33 : decode prog_13_method_12_code 33 = .ok (.iinc 4 1, 3) := by decide +kernel
theorem dX14_isOnRing_36 : decode prog_13_method_12_code 36 = .ok (.goto (-29), 3) := by decide +kernel
theorem dX14_isOnRing_39 : decode prog_13_method_12_code 39 = .ok (.iconst 0, 1) := by decide +kernel
theorem dX14_isOnRing_40 : decode prog_13_method_12_code 40 = .ok (.ireturn, 1) := by decide +kernel
theorem dX14_meet_0 : decode prog_13_method_13_code 0 = .ok (.aload_n 0, 1) := by decide +kernel
theorem dX14_meet_1 : decode prog_13_method_13_code 1 = .ok (.iload_n 1, 1) := by decide +kernel
theorem dX14_meet_2 : decode prog_13_method_13_code 2 = .ok (.aload_n 2, 1) := by decide +kernel
theorem dX14_meet_3 : decode prog_13_method_13_code 3 = .ok (.getfield 30, 3) := by decide +kernel
theorem dX14_meet_6 : decode prog_13_method_13_code 6 = .ok (.iload_n 3, 1) := by decide +kernel
theorem dX14_meet_7 : decode prog_13_method_13_code 7 = .ok (.iaload, 1) := by decide +kernel
theorem dX14_meet_8 : decode prog_13_method_13_code 8 = .ok (.aload_n 2, 1) := by decide +kernel
theorem dX14_meet_9 : decode prog_13_method_13_code 9 = .ok (.getfield 36, 3) := by decide +kernel
theorem dX14_meet_12 : decode prog_13_method_13_code 12 = .ok (.iload_n 3, 1) := by decide +kernel
theorem dX14_meet_13 : decode prog_13_method_13_code 13 = .ok (.iaload, 1) := by decide +kernel
theorem dX14_meet_14 : decode prog_13_method_13_code 14 = .ok (.invokestatic 60, 3) := by decide +kernel
theorem dX14_meet_17 : decode prog_13_method_13_code 17 = .ok (.istore 4, 2) := by decide +kernel
theorem dX14_meet_19 : decode prog_13_method_13_code 19 = .ok (.aload_n 0, 1) := by decide +kernel
theorem dX14_meet_20 : decode prog_13_method_13_code 20 = .ok (.iload_n 1, 1) := by decide +kernel
theorem dX14_meet_21 : decode prog_13_method_13_code 21 = .ok (.aload_n 2, 1) := by decide +kernel
theorem dX14_meet_22 : decode prog_13_method_13_code 22 = .ok (.getfield 30, 3) := by decide +kernel
theorem dX14_meet_25 : decode prog_13_method_13_code 25 = .ok (.iload_n 3, 1) := by decide +kernel
theorem dX14_meet_26 : decode prog_13_method_13_code 26 = .ok (.iconst 1, 1) := by decide +kernel
theorem dX14_meet_27 : decode prog_13_method_13_code 27 = .ok (.iadd, 1) := by decide +kernel
theorem dX14_meet_28 : decode prog_13_method_13_code 28 = .ok (.iaload, 1) := by decide +kernel
theorem dX14_meet_29 : decode prog_13_method_13_code 29 = .ok (.aload_n 2, 1) := by decide +kernel
theorem dX14_meet_30 : decode prog_13_method_13_code 30 = .ok (.getfield 36, 3) := by decide +kernel
theorem dX14_meet_33 : decode prog_13_method_13_code 33 = .ok (.iload_n 3, 1) := by decide +kernel
theorem dX14_meet_34 : decode prog_13_method_13_code 34 = .ok (.iconst 1, 1) := by decide +kernel
theorem dX14_meet_35 : decode prog_13_method_13_code 35 = .ok (.iadd, 1) := by decide +kernel
theorem dX14_meet_36 : decode prog_13_method_13_code 36 = .ok (.iaload, 1) := by decide +kernel
theorem dX14_meet_37 : decode prog_13_method_13_code 37 = .ok (.invokestatic 60, 3) := by decide +kernel
theorem dX14_meet_40 : decode prog_13_method_13_code 40 = .ok (.istore 5, 2) := by decide +kernel
theorem dX14_meet_42 : decode prog_13_method_13_code 42 = .ok (.aload_n 2, 1) := by decide +kernel
theorem dX14_meet_43 : decode prog_13_method_13_code 43 = .ok (.iload_n 3, 1) := by decide +kernel
theorem dX14_meet_44 : decode prog_13_method_13_code 44 = .ok (.aload_n 0, 1) := by decide +kernel
theorem dX14_meet_45 : decode prog_13_method_13_code 45 = .ok (.getfield 30, 3) := by decide +kernel
theorem dX14_meet_48 : decode prog_13_method_13_code 48 = .ok (.iload_n 1, 1) := by decide +kernel
theorem dX14_meet_49 : decode prog_13_method_13_code 49 = .ok (.iaload, 1) := by decide +kernel
theorem dX14_meet_50 : decode prog_13_method_13_code 50 = .ok (.aload_n 0, 1) := by decide +kernel
theorem dX14_meet_51 : decode prog_13_method_13_code 51 = .ok (.getfield 36, 3) := by decide +kernel
theorem dX14_meet_54 : decode prog_13_method_13_code 54 = .ok (.iload_n 1, 1) := by decide +kernel
theorem dX14_meet_55 : decode prog_13_method_13_code 55 = .ok (.iaload, 1) := by decide +kernel
theorem dX14_meet_56 : decode prog_13_method_13_code 56 = .ok (.invokestatic 60, 3) := by decide +kernel
theorem dX14_meet_59 : decode prog_13_method_13_code 59 = .ok (.istore 6, 2) := by decide +kernel
theorem dX14_meet_61 : decode prog_13_method_13_code 61 = .ok (.aload_n 2, 1) := by decide +kernel
theorem dX14_meet_62 : decode prog_13_method_13_code 62 = .ok (.iload_n 3, 1) := by decide +kernel
theorem dX14_meet_63 : decode prog_13_method_13_code 63 = .ok (.aload_n 0, 1) := by decide +kernel
theorem dX14_meet_64 : decode prog_13_method_13_code 64 = .ok (.getfield 30, 3) := by decide +kernel
theorem dX14_meet_67 : decode prog_13_method_13_code 67 = .ok (.iload_n 1, 1) := by decide +kernel
theorem dX14_meet_68 : decode prog_13_method_13_code 68 = .ok (.iconst 1, 1) := by decide +kernel
theorem dX14_meet_69 : decode prog_13_method_13_code 69 = .ok (.iadd, 1) := by decide +kernel
theorem dX14_meet_70 : decode prog_13_method_13_code 70 = .ok (.iaload, 1) := by decide +kernel
theorem dX14_meet_71 : decode prog_13_method_13_code 71 = .ok (.aload_n 0, 1) := by decide +kernel
theorem dX14_meet_72 : decode prog_13_method_13_code 72 = .ok (.getfield 36, 3) := by decide +kernel
theorem dX14_meet_75 : decode prog_13_method_13_code 75 = .ok (.iload_n 1, 1) := by decide +kernel
theorem dX14_meet_76 : decode prog_13_method_13_code 76 = .ok (.iconst 1, 1) := by decide +kernel
theorem dX14_meet_77 : decode prog_13_method_13_code 77 = .ok (.iadd, 1) := by decide +kernel
theorem dX14_meet_78 : decode prog_13_method_13_code 78 = .ok (.iaload, 1) := by decide +kernel
theorem dX14_meet_79 : decode prog_13_method_13_code 79 = .ok (.invokestatic 60, 3) := by decide +kernel
theorem dX14_meet_82 : decode prog_13_method_13_code 82 = .ok (.istore 7, 2) := by decide +kernel
theorem dX14_meet_84 : decode prog_13_method_13_code 84 = .ok (.iload 4, 2) := by decide +kernel
theorem dX14_meet_86 : decode prog_13_method_13_code 86 = .ok (.iload 5, 2) := by decide +kernel
theorem dX14_meet_88 : decode prog_13_method_13_code 88 = .ok (.imul, 1) := by decide +kernel
theorem dX14_meet_89 : decode prog_13_method_13_code 89 = .ok (.ifCond .ge 13, 3) := by decide +kernel
theorem dX14_meet_92 : decode prog_13_method_13_code 92 = .ok (.iload 6, 2) := by decide +kernel
theorem dX14_meet_94 : decode prog_13_method_13_code 94 = .ok (.iload 7, 2) := by decide +kernel
theorem dX14_meet_96 : decode prog_13_method_13_code 96 = .ok (.imul, 1) := by decide +kernel
theorem dX14_meet_97 : decode prog_13_method_13_code 97 = .ok (.ifCond .ge 5, 3) := by decide +kernel
theorem dX14_meet_100 : decode prog_13_method_13_code 100 = .ok (.iconst 1, 1) := by decide +kernel
theorem dX14_meet_101 : decode prog_13_method_13_code 101 = .ok (.ireturn, 1) := by decide +kernel
theorem dX14_meet_102 : decode prog_13_method_13_code 102 = .ok (.aload_n 0, 1) := by decide +kernel
theorem dX14_meet_103 : decode prog_13_method_13_code 103 = .ok (.iload_n 1, 1) := by decide +kernel
theorem dX14_meet_104 : decode prog_13_method_13_code 104 = .ok (.aload_n 2, 1) := by decide +kernel
theorem dX14_meet_105 : decode prog_13_method_13_code 105 = .ok (.getfield 30, 3) := by decide +kernel
theorem dX14_meet_108 : decode prog_13_method_13_code 108 = .ok (.iload_n 3, 1) := by decide +kernel
theorem dX14_meet_109 : decode prog_13_method_13_code 109 = .ok (.iaload, 1) := by decide +kernel
theorem dX14_meet_110 : decode prog_13_method_13_code 110 = .ok (.aload_n 2, 1) := by decide +kernel
theorem dX14_meet_111 : decode prog_13_method_13_code 111 = .ok (.getfield 36, 3) := by decide +kernel
theorem dX14_meet_114 : decode prog_13_method_13_code 114 = .ok (.iload_n 3, 1) := by decide +kernel
theorem dX14_meet_115 : decode prog_13_method_13_code 115 = .ok (.iaload, 1) := by decide +kernel
theorem dX14_meet_116 : decode prog_13_method_13_code 116 = .ok (.invokestatic 71, 3) := by decide +kernel
theorem dX14_meet_119 : decode prog_13_method_13_code 119 = .ok (.ifCond .ne 71, 3) := by decide +kernel
theorem dX14_meet_122 : decode prog_13_method_13_code 122 = .ok (.aload_n 0, 1) := by decide +kernel
theorem dX14_meet_123 : decode prog_13_method_13_code 123 = .ok (.iload_n 1, 1) := by decide +kernel
theorem dX14_meet_124 : decode prog_13_method_13_code 124 = .ok (.aload_n 2, 1) := by decide +kernel
theorem dX14_meet_125 : decode prog_13_method_13_code 125 = .ok (.getfield 30, 3) := by decide +kernel
theorem dX14_meet_128 : decode prog_13_method_13_code 128 = .ok (.iload_n 3, 1) := by decide +kernel
theorem dX14_meet_129 : decode prog_13_method_13_code 129 = .ok (.iconst 1, 1) := by decide +kernel
theorem dX14_meet_130 : decode prog_13_method_13_code 130 = .ok (.iadd, 1) := by decide +kernel
theorem dX14_meet_131 : decode prog_13_method_13_code 131 = .ok (.iaload, 1) := by decide +kernel
theorem dX14_meet_132 : decode prog_13_method_13_code 132 = .ok (.aload_n 2, 1) := by decide +kernel
theorem dX14_meet_133 : decode prog_13_method_13_code 133 = .ok (.getfield 36, 3) := by decide +kernel
theorem dX14_meet_136 : decode prog_13_method_13_code 136 = .ok (.iload_n 3, 1) := by decide +kernel
theorem dX14_meet_137 : decode prog_13_method_13_code 137 = .ok (.iconst 1, 1) := by decide +kernel
theorem dX14_meet_138 : decode prog_13_method_13_code 138 = .ok (.iadd, 1) := by decide +kernel
theorem dX14_meet_139 : decode prog_13_method_13_code 139 = .ok (.iaload, 1) := by decide +kernel
theorem dX14_meet_140 : decode prog_13_method_13_code 140 = .ok (.invokestatic 71, 3) := by decide +kernel
theorem dX14_meet_143 : decode prog_13_method_13_code 143 = .ok (.ifCond .ne 47, 3) := by decide +kernel
theorem dX14_meet_146 : decode prog_13_method_13_code 146 = .ok (.aload_n 2, 1) := by decide +kernel
theorem dX14_meet_147 : decode prog_13_method_13_code 147 = .ok (.iload_n 3, 1) := by decide +kernel
theorem dX14_meet_148 : decode prog_13_method_13_code 148 = .ok (.aload_n 0, 1) := by decide +kernel
theorem dX14_meet_149 : decode prog_13_method_13_code 149 = .ok (.getfield 30, 3) := by decide +kernel
theorem dX14_meet_152 : decode prog_13_method_13_code 152 = .ok (.iload_n 1, 1) := by decide +kernel
theorem dX14_meet_153 : decode prog_13_method_13_code 153 = .ok (.iaload, 1) := by decide +kernel
theorem dX14_meet_154 : decode prog_13_method_13_code 154 = .ok (.aload_n 0, 1) := by decide +kernel
theorem dX14_meet_155 : decode prog_13_method_13_code 155 = .ok (.getfield 36, 3) := by decide +kernel
theorem dX14_meet_158 : decode prog_13_method_13_code 158 = .ok (.iload_n 1, 1) := by decide +kernel
theorem dX14_meet_159 : decode prog_13_method_13_code 159 = .ok (.iaload, 1) := by decide +kernel
theorem dX14_meet_160 : decode prog_13_method_13_code 160 = .ok (.invokestatic 71, 3) := by decide +kernel
theorem dX14_meet_163 : decode prog_13_method_13_code 163 = .ok (.ifCond .ne 27, 3) := by decide +kernel
theorem dX14_meet_166 : decode prog_13_method_13_code 166 = .ok (.aload_n 2, 1) := by decide +kernel
theorem dX14_meet_167 : decode prog_13_method_13_code 167 = .ok (.iload_n 3, 1) := by decide +kernel
theorem dX14_meet_168 : decode prog_13_method_13_code 168 = .ok (.aload_n 0, 1) := by decide +kernel
theorem dX14_meet_169 : decode prog_13_method_13_code 169 = .ok (.getfield 30, 3) := by decide +kernel
theorem dX14_meet_172 : decode prog_13_method_13_code 172 = .ok (.iload_n 1, 1) := by decide +kernel
theorem dX14_meet_173 : decode prog_13_method_13_code 173 = .ok (.iconst 1, 1) := by decide +kernel
theorem dX14_meet_174 : decode prog_13_method_13_code 174 = .ok (.iadd, 1) := by decide +kernel
theorem dX14_meet_175 : decode prog_13_method_13_code 175 = .ok (.iaload, 1) := by decide +kernel
theorem dX14_meet_176 : decode prog_13_method_13_code 176 = .ok (.aload_n 0, 1) := by decide +kernel
theorem dX14_meet_177 : decode prog_13_method_13_code 177 = .ok (.getfield 36, 3) := by decide +kernel
theorem dX14_meet_180 : decode prog_13_method_13_code 180 = .ok (.iload_n 1, 1) := by decide +kernel
theorem dX14_meet_181 : decode prog_13_method_13_code 181 = .ok (.iconst 1, 1) := by decide +kernel
theorem dX14_meet_182 : decode prog_13_method_13_code 182 = .ok (.iadd, 1) := by decide +kernel
theorem dX14_meet_183 : decode prog_13_method_13_code 183 = .ok (.iaload, 1) := by decide +kernel
theorem dX14_meet_184 : decode prog_13_method_13_code 184 = .ok (.invokestatic 71, 3) := by decide +kernel
theorem dX14_meet_187 : decode prog_13_method_13_code 187 = .ok (.ifCond .eq 7, 3) := by decide +kernel
theorem dX14_meet_190 : decode prog_13_method_13_code 190 = .ok (.iconst 1, 1) := by decide +kernel
theorem dX14_meet_191 : decode prog_13_method_13_code 191 = .ok (.goto 4, 3) := by decide +kernel
theorem dX14_meet_194 : decode prog_13_method_13_code 194 = .ok (.iconst 0, 1) := by decide +kernel
theorem dX14_meet_195 : decode prog_13_method_13_code 195 = .ok (.ireturn, 1) := by decide +kernel
theorem dX14_locate_0 : decode prog_13_method_14_code 0 = .ok (.aload_n 0, 1) := by decide +kernel
theorem dX14_locate_1 : decode prog_13_method_14_code 1 = .ok (.getfield 75, 3) := by decide +kernel
theorem dX14_locate_4 : decode prog_13_method_14_code 4 = .ok (.ifCond .ne 29, 3) := by decide +kernel
theorem dX14_locate_7 : decode prog_13_method_14_code 7 = .ok (.aload_n 0, 1) := by decide +kernel
theorem dX14_locate_8 : decode prog_13_method_14_code 8 = .ok (.getfield 30, 3) := by decide +kernel
theorem dX14_locate_11 : decode prog_13_method_14_code 11 = .ok (.iconst 0, 1) := by decide +kernel
theorem dX14_locate_12 : decode prog_13_method_14_code 12 = .ok (.iaload, 1) := by decide +kernel
theorem dX14_locate_13 : decode prog_13_method_14_code 13 = .ok (.iload_n 1, 1) := by decide +kernel
theorem dX14_locate_14 : decode prog_13_method_14_code 14 = .ok (.if_icmp .ne 17, 3) := by decide +kernel
theorem dX14_locate_17 : decode prog_13_method_14_code 17 = .ok (.aload_n 0, 1) := by decide +kernel
theorem dX14_locate_18 : decode prog_13_method_14_code 18 = .ok (.getfield 36, 3) := by decide +kernel
theorem dX14_locate_21 : decode prog_13_method_14_code 21 = .ok (.iconst 0, 1) := by decide +kernel
theorem dX14_locate_22 : decode prog_13_method_14_code 22 = .ok (.iaload, 1) := by decide +kernel
theorem dX14_locate_23 : decode prog_13_method_14_code 23 = .ok (.iload_n 2, 1) := by decide +kernel
theorem dX14_locate_24 : decode prog_13_method_14_code 24 = .ok (.if_icmp .ne 7, 3) := by decide +kernel
theorem dX14_locate_27 : decode prog_13_method_14_code 27 = .ok (.iconst 1, 1) := by decide +kernel
theorem dX14_locate_28 : decode prog_13_method_14_code 28 = .ok (.goto 4, 3) := by decide +kernel
theorem dX14_locate_31 : decode prog_13_method_14_code 31 = .ok (.iconst (-1), 1) := by decide +kernel
theorem dX14_locate_32 : decode prog_13_method_14_code 32 = .ok (.ireturn, 1) := by decide +kernel
theorem dX14_locate_33 : decode prog_13_method_14_code 33 = .ok (.iconst 0, 1) := by decide +kernel
theorem dX14_locate_34 : decode prog_13_method_14_code 34 = .ok (.istore_n 3, 1) := by decide +kernel
theorem dX14_locate_35 : decode prog_13_method_14_code 35 = .ok (.iconst 0, 1) := by decide +kernel
theorem dX14_locate_36 : decode prog_13_method_14_code 36 = .ok (.istore 4, 2) := by decide +kernel
theorem dX14_locate_38 : decode prog_13_method_14_code 38 = .ok (.iconst 0, 1) := by decide +kernel
theorem dX14_locate_39 : decode prog_13_method_14_code 39 = .ok (.istore 5, 2) := by decide +kernel
theorem dX14_locate_41 : decode prog_13_method_14_code 41 = .ok (.iload 5, 2) := by decide +kernel
theorem dX14_locate_43 : decode prog_13_method_14_code 43 = .ok (.iconst 1, 1) := by decide +kernel
theorem dX14_locate_44 : decode prog_13_method_14_code 44 = .ok (.iadd, 1) := by decide +kernel
theorem dX14_locate_45 : decode prog_13_method_14_code 45 = .ok (.aload_n 0, 1) := by decide +kernel
theorem dX14_locate_46 : decode prog_13_method_14_code 46 = .ok (.getfield 79, 3) := by decide +kernel
theorem dX14_locate_49 : decode prog_13_method_14_code 49 = .ok (.if_icmp .ge 131, 3) := by decide +kernel
theorem dX14_locate_52 : decode prog_13_method_14_code 52 = .ok (.aload_n 0, 1) := by decide +kernel
theorem dX14_locate_53 : decode prog_13_method_14_code 53 = .ok (.iload 5, 2) := by decide +kernel
theorem dX14_locate_55 : decode prog_13_method_14_code 55 = .ok (.invokevirtual 82, 3) := by decide +kernel
theorem dX14_locate_58 : decode prog_13_method_14_code 58 = .ok (.ifCond .ne 6, 3) := by decide +kernel
theorem dX14_locate_61 : decode prog_13_method_14_code 61 = .ok (.goto 113, 3) := by decide +kernel
theorem dX14_locate_64 : decode prog_13_method_14_code 64 = .ok (.iload_n 3, 1) := by decide +kernel
theorem dX14_locate_65 : decode prog_13_method_14_code 65 = .ok (.ifCond .ne 14, 3) := by decide +kernel
theorem dX14_locate_68 : decode prog_13_method_14_code 68 = .ok (.aload_n 0, 1) := by decide +kernel
theorem dX14_locate_69 : decode prog_13_method_14_code 69 = .ok (.iload 5, 2) := by decide +kernel
theorem dX14_locate_71 : decode prog_13_method_14_code 71 = .ok (.iload_n 1, 1) := by decide +kernel
theorem dX14_locate_72 : decode prog_13_method_14_code 72 = .ok (.iload_n 2, 1) := by decide +kernel
theorem dX14_locate_73 : decode prog_13_method_14_code 73 = .ok (.invokestatic 71, 3) := by decide +kernel
theorem dX14_locate_76 : decode prog_13_method_14_code 76 = .ok (.ifCond .eq 7, 3) := by decide +kernel
theorem dX14_locate_79 : decode prog_13_method_14_code 79 = .ok (.iconst 1, 1) := by decide +kernel
theorem dX14_locate_80 : decode prog_13_method_14_code 80 = .ok (.goto 4, 3) := by decide +kernel
theorem dX14_locate_83 : decode prog_13_method_14_code 83 = .ok (.iconst 0, 1) := by decide +kernel
theorem dX14_locate_84 : decode prog_13_method_14_code 84 = .ok (.istore_n 3, 1) := by decide +kernel
theorem dX14_locate_85 : decode prog_13_method_14_code 85 = .ok (.aload_n 0, 1) := by decide +kernel
theorem dX14_locate_86 : decode prog_13_method_14_code 86 = .ok (.getfield 36, 3) := by decide +kernel
theorem dX14_locate_89 : decode prog_13_method_14_code 89 = .ok (.iload 5, 2) := by decide +kernel
theorem dX14_locate_91 : decode prog_13_method_14_code 91 = .ok (.iaload, 1) := by decide +kernel
theorem dX14_locate_92 : decode prog_13_method_14_code 92 = .ok (.iload_n 2, 1) := by decide +kernel
theorem dX14_locate_93 : decode prog_13_method_14_code 93 = .ok (.if_icmp .le 7, 3) := by decide +kernel
theorem dX14_locate_96 : decode prog_13_method_14_code 96 = .ok (.iconst 1, 1) := by decide +kernel
theorem dX14_locate_97 : decode prog_13_method_14_code 97 = .ok (.goto 4, 3) := by decide +kernel
theorem dX14_locate_100 : decode prog_13_method_14_code 100 = .ok (.iconst 0, 1) := by decide +kernel
theorem dX14_locate_101 : decode prog_13_method_14_code 101 = .ok (.aload_n 0, 1) := by decide +kernel
theorem dX14_locate_102 : decode prog_13_method_14_code 102 = .ok (.getfield 36, 3) := by decide +kernel
theorem dX14_locate_105 : decode prog_13_method_14_code 105 = .ok (.iload 5, 2) := by decide +kernel
theorem dX14_locate_107 : decode prog_13_method_14_code 107 = .ok (.iconst 1, 1) := by decide +kernel
theorem dX14_locate_108 : decode prog_13_method_14_code 108 = .ok (.iadd, 1) := by decide +kernel
theorem dX14_locate_109 : decode prog_13_method_14_code 109 = .ok (.iaload, 1) := by decide +kernel
theorem dX14_locate_110 : decode prog_13_method_14_code 110 = .ok (.iload_n 2, 1) := by decide +kernel
theorem dX14_locate_111 : decode prog_13_method_14_code 111 = .ok (.if_icmp .le 7, 3) := by decide +kernel
theorem dX14_locate_114 : decode prog_13_method_14_code 114 = .ok (.iconst 1, 1) := by decide +kernel
theorem dX14_locate_115 : decode prog_13_method_14_code 115 = .ok (.goto 4, 3) := by decide +kernel
theorem dX14_locate_118 : decode prog_13_method_14_code 118 = .ok (.iconst 0, 1) := by decide +kernel
theorem dX14_locate_119 : decode prog_13_method_14_code 119 = .ok (.if_icmp .eq 55, 3) := by decide +kernel
theorem dX14_locate_122 : decode prog_13_method_14_code 122 = .ok (.iload 4, 2) := by decide +kernel
theorem dX14_locate_124 : decode prog_13_method_14_code 124 = .ok (.aload_n 0, 1) := by decide +kernel
theorem dX14_locate_125 : decode prog_13_method_14_code 125 = .ok (.iload 5, 2) := by decide +kernel
theorem dX14_locate_127 : decode prog_13_method_14_code 127 = .ok (.iload_n 1, 1) := by decide +kernel
theorem dX14_locate_128 : decode prog_13_method_14_code 128 = .ok (.iload_n 2, 1) := by decide +kernel
theorem dX14_locate_129 : decode prog_13_method_14_code 129 = .ok (.invokestatic 60, 3) := by decide +kernel
theorem dX14_locate_132 : decode prog_13_method_14_code 132 = .ok (.aload_n 0, 1) := by decide +kernel
theorem dX14_locate_133 : decode prog_13_method_14_code 133 = .ok (.getfield 36, 3) := by decide +kernel
theorem dX14_locate_136 : decode prog_13_method_14_code 136 = .ok (.iload 5, 2) := by decide +kernel
theorem dX14_locate_138 : decode prog_13_method_14_code 138 = .ok (.iconst 1, 1) := by decide +kernel
theorem dX14_locate_139 : decode prog_13_method_14_code 139 = .ok (.iadd, 1) := by decide +kernel
theorem dX14_locate_140 : decode prog_13_method_14_code 140 = .ok (.iaload, 1) := by decide +kernel
theorem dX14_locate_141 : decode prog_13_method_14_code 141 = .ok (.aload_n 0, 1) := by decide +kernel
theorem dX14_locate_142 : decode prog_13_method_14_code 142 = .ok (.getfield 36, 3) := by decide +kernel
theorem dX14_locate_145 : decode prog_13_method_14_code 145 = .ok (.iload 5, 2) := by decide +kernel
theorem dX14_locate_147 : decode prog_13_method_14_code 147 = .ok (.iaload, 1) := by decide +kernel
theorem dX14_locate_148 : decode prog_13_method_14_code 148 = .ok (.if_icmp .le 7, 3) := by decide +kernel
theorem dX14_locate_151 : decode prog_13_method_14_code 151 = .ok (.iconst 1, 1) := by decide +kernel
theorem dX14_locate_152 : decode prog_13_method_14_code 152 = .ok (.goto 4, 3) := by decide +kernel
theorem dX14_locate_155 : decode prog_13_method_14_code 155 = .ok (.iconst (-1), 1) := by decide +kernel
theorem dX14_locate_156 : decode prog_13_method_14_code 156 = .ok (.if_icmp .ne 7, 3) := by decide +kernel
theorem dX14_locate_159 : decode prog_13_method_14_code 159 = .ok (.iconst 1, 1) := by decide +kernel
theorem dX14_locate_160 : decode prog_13_method_14_code 160 = .ok (.goto 4, 3) := by decide +kernel
theorem dX14_locate_163 : decode prog_13_method_14_code 163 = .ok (.iconst 0, 1) := by decide +kernel
theorem dX14_locate_164 : decode prog_13_method_14_code 164 = .ok (.if_icmp .eq 7, 3) := by decide +kernel
theorem dX14_locate_167 : decode prog_13_method_14_code 167 = .ok (.iconst 1, 1) := by decide +kernel
theorem dX14_locate_168 : decode prog_13_method_14_code 168 = .ok (.goto 4, 3) := by decide +kernel
theorem dX14_locate_171 : decode prog_13_method_14_code 171 = .ok (.iconst 0, 1) := by decide +kernel
theorem dX14_locate_172 : decode prog_13_method_14_code 172 = .ok (.istore 4, 2) := by decide +kernel
theorem dX14_locate_174 : decode prog_13_method_14_code 174 = .ok (.iinc 5 1, 3) := by decide +kernel
theorem dX14_locate_177 : decode prog_13_method_14_code 177 = .ok (.goto (-136), 3) := by decide +kernel
theorem dX14_locate_180 : decode prog_13_method_14_code 180 = .ok (.aload_n 0, 1) := by decide +kernel
theorem dX14_locate_181 : decode prog_13_method_14_code 181 = .ok (.getfield 75, 3) := by decide +kernel
theorem dX14_locate_184 : decode prog_13_method_14_code 184 = .ok (.iconst 2, 1) := by decide +kernel
theorem dX14_locate_185 : decode prog_13_method_14_code 185 = .ok (.if_icmp .ne 22, 3) := by decide +kernel
theorem dX14_locate_188 : decode prog_13_method_14_code 188 = .ok (.iload_n 3, 1) := by decide +kernel
theorem dX14_locate_189 : decode prog_13_method_14_code 189 = .ok (.ifCond .eq 7, 3) := by decide +kernel
theorem dX14_locate_192 : decode prog_13_method_14_code 192 = .ok (.iconst 0, 1) := by decide +kernel
theorem dX14_locate_193 : decode prog_13_method_14_code 193 = .ok (.goto 13, 3) := by decide +kernel
theorem dX14_locate_196 : decode prog_13_method_14_code 196 = .ok (.iload 4, 2) := by decide +kernel
theorem dX14_locate_198 : decode prog_13_method_14_code 198 = .ok (.ifCond .eq 7, 3) := by decide +kernel
theorem dX14_locate_201 : decode prog_13_method_14_code 201 = .ok (.iconst 1, 1) := by decide +kernel
theorem dX14_locate_202 : decode prog_13_method_14_code 202 = .ok (.goto 4, 3) := by decide +kernel
theorem dX14_locate_205 : decode prog_13_method_14_code 205 = .ok (.iconst (-1), 1) := by decide +kernel
theorem dX14_locate_206 : decode prog_13_method_14_code 206 = .ok (.ireturn, 1) := by decide +kernel
theorem dX14_locate_207 : decode prog_13_method_14_code 207 = .ok (.iload_n 3, 1) := by decide +kernel
theorem dX14_locate_208 : decode prog_13_method_14_code 208 = .ok (.ifCond .ne 5, 3) := by decide +kernel
theorem dX14_locate_211 : decode prog_13_method_14_code 211 = .ok (.iconst (-1), 1) := by decide +kernel
theorem dX14_locate_212 : decode prog_13_method_14_code 212 = .ok (.ireturn, 1) := by decide +kernel
theorem dX14_locate_213 : decode prog_13_method_14_code 213 = .ok (.aload_n 0, 1) := by decide +kernel
theorem dX14_locate_214 : decode prog_13_method_14_code 214 = .ok (.getfield 79, 3) := by decide +kernel
theorem dX14_locate_217 : decode prog_13_method_14_code 217 = .ok (.iconst 1, 1) := by decide +kernel
theorem dX14_locate_218 : decode prog_13_method_14_code 218 = .ok (.isub, 1) := by decide +kernel
theorem dX14_locate_219 : decode prog_13_method_14_code 219 = .ok (.istore 5, 2) := by decide +kernel
theorem dX14_locate_221 : decode prog_13_method_14_code 221 = .ok (.aload_n 0, 1) := by decide +kernel
theorem dX14_locate_222 : decode prog_13_method_14_code 222 = .ok (.invokevirtual 86, 3) := by decide +kernel
theorem dX14_locate_225 : decode prog_13_method_14_code 225 = .ok (.ifCond .eq 49, 3) := by decide +kernel
theorem dX14_locate_228 : decode prog_13_method_14_code 228 = .ok (.aload_n 0, 1) := by decide +kernel
theorem dX14_locate_229 : decode prog_13_method_14_code 229 = .ok (.getfield 30, 3) := by decide +kernel
theorem dX14_locate_232 : decode prog_13_method_14_code 232 = .ok (.iconst 0, 1) := by decide +kernel
theorem dX14_locate_233 : decode prog_13_method_14_code 233 = .ok (.iaload, 1) := by decide +kernel
theorem dX14_locate_234 : decode prog_13_method_14_code 234 = .ok (.iload_n 1, 1) := by decide +kernel
theorem dX14_locate_235 : decode prog_13_method_14_code 235 = .ok (.if_icmp .ne 13, 3) := by decide +kernel
theorem dX14_locate_238 : decode prog_13_method_14_code 238 = .ok (.aload_n 0, 1) := by decide +kernel
theorem dX14_locate_239 : decode prog_13_method_14_code 239 = .ok (.getfield 36, 3) := by decide +kernel
theorem dX14_locate_242 : decode prog_13_method_14_code 242 = .ok (.iconst 0, 1) := by decide +kernel
theorem dX14_locate_243 : decode prog_13_method_14_code 243 = .ok (.iaload, 1) := by decide +kernel
theorem dX14_locate_244 : decode prog_13_method_14_code 244 = .ok (.iload_n 2, 1) := by decide +kernel
theorem dX14_locate_245 : decode prog_13_method_14_code 245 = .ok (.if_icmp .eq 25, 3) := by decide +kernel
theorem dX14_locate_248 : decode prog_13_method_14_code 248 = .ok (.aload_n 0, 1) := by decide +kernel
theorem dX14_locate_249 : decode prog_13_method_14_code 249 = .ok (.getfield 30, 3) := by decide +kernel
theorem dX14_locate_252 : decode prog_13_method_14_code 252 = .ok (.iload 5, 2) := by decide +kernel
theorem dX14_locate_254 : decode prog_13_method_14_code 254 = .ok (.iaload, 1) := by decide +kernel
theorem dX14_locate_255 : decode prog_13_method_14_code 255 = .ok (.iload_n 1, 1) := by decide +kernel
theorem dX14_locate_256 : decode prog_13_method_14_code 256 = .ok (.if_icmp .ne 18, 3) := by decide +kernel
theorem dX14_locate_259 : decode prog_13_method_14_code 259 = .ok (.aload_n 0, 1) := by decide +kernel
theorem dX14_locate_260 : decode prog_13_method_14_code 260 = .ok (.getfield 36, 3) := by decide +kernel
theorem dX14_locate_263 : decode prog_13_method_14_code 263 = .ok (.iload 5, 2) := by decide +kernel
theorem dX14_locate_265 : decode prog_13_method_14_code 265 = .ok (.iaload, 1) := by decide +kernel
theorem dX14_locate_266 : decode prog_13_method_14_code 266 = .ok (.iload_n 2, 1) := by decide +kernel
theorem dX14_locate_267 : decode prog_13_method_14_code 267 = .ok (.if_icmp .ne 7, 3) := by decide +kernel
theorem dX14_locate_270 : decode prog_13_method_14_code 270 = .ok (.iconst 0, 1) := by decide +kernel
theorem dX14_locate_271 : decode prog_13_method_14_code 271 = .ok (.goto 4, 3) := by decide +kernel
theorem dX14_locate_274 : decode prog_13_method_14_code 274 = .ok (.iconst 1, 1) := by decide +kernel
theorem dX14_locate_275 : decode prog_13_method_14_code 275 = .ok (.ireturn, 1) := by decide +kernel
theorem dX14_isLeftRound_0 : decode prog_13_method_15_code 0 = .ok (.aload_n 0, 1) := by decide +kernel
theorem dX14_isLeftRound_1 : decode prog_13_method_15_code 1 = .ok (.iload_n 1, 1) := by decide +kernel
theorem dX14_isLeftRound_2 : decode prog_13_method_15_code 2 = .ok (.invokevirtual 64, 3) := by decide +kernel
theorem dX14_isLeftRound_5 : decode prog_13_method_15_code 5 = .ok (.istore_n 2, 1) := by decide +kernel
theorem dX14_isLeftRound_6 : decode prog_13_method_15_code 6 = .ok (.aload_n 0, 1) := by decide +kernel
theorem dX14_isLeftRound_7 : decode prog_13_method_15_code 7 = .ok (.getfield 68, 3) := by decide +kernel
theorem dX14_isLeftRound_10 : decode prog_13_method_15_code 10 = .ok (.iload_n 1, 1) := by decide +kernel
theorem dX14_isLeftRound_11 : decode prog_13_method_15_code 11 = .ok (.iaload, 1) := by decide +kernel
theorem dX14_isLeftRound_12 : decode prog_13_method_15_code 12 = .ok (.iload_n 2, 1) := by decide +kernel
theorem dX14_isLeftRound_13 : decode prog_13_method_15_code 13 = .ok (.isub, 1) := by decide +kernel
theorem dX14_isLeftRound_14 : decode prog_13_method_15_code 14 = .ok (.iconst 1, 1) := by decide +kernel
theorem dX14_isLeftRound_15 : decode prog_13_method_15_code 15 = .ok (.isub, 1) := by decide +kernel
theorem dX14_isLeftRound_16 : decode prog_13_method_15_code 16 = .ok (.istore_n 3, 1) := by decide +kernel
theorem dX14_isLeftRound_17 : decode prog_13_method_15_code 17 = .ok (.iconst 0, 1) := by decide +kernel
theorem dX14_isLeftRound_18 : decode prog_13_method_15_code 18 = .ok (.istore 4, 2) := by decide +kernel
theorem dX14_isLeftRound_20 : decode prog_13_method_15_code 20 = .ok (.iconst 1, 1) := by decide +kernel
theorem dX14_isLeftRound_21 : decode prog_13_method_15_code 21 = .ok (.istore 5, 2) := by decide +kernel
theorem dX14_isLeftRound_23 : decode prog_13_method_15_code 23 = .ok (.iload 5, 2) := by decide +kernel
theorem dX14_isLeftRound_25 : decode prog_13_method_15_code 25 = .ok (.iload_n 3, 1) := by decide +kernel
theorem dX14_isLeftRound_26 : decode prog_13_method_15_code 26 = .ok (.if_icmp .ge 76, 3) := by decide +kernel
theorem dX14_isLeftRound_29 : decode prog_13_method_15_code 29 = .ok (.aload_n 0, 1) := by decide +kernel
theorem dX14_isLeftRound_30 : decode prog_13_method_15_code 30 = .ok (.getfield 36, 3) := by decide +kernel
theorem dX14_isLeftRound_33 : decode prog_13_method_15_code 33 = .ok (.iload_n 2, 1) := by decide +kernel
theorem dX14_isLeftRound_34 : decode prog_13_method_15_code 34 = .ok (.iload 5, 2) := by decide +kernel
theorem dX14_isLeftRound_36 : decode prog_13_method_15_code 36 = .ok (.iadd, 1) := by decide +kernel
theorem dX14_isLeftRound_37 : decode prog_13_method_15_code 37 = .ok (.iaload, 1) := by decide +kernel
theorem dX14_isLeftRound_38 : decode prog_13_method_15_code 38 = .ok (.aload_n 0, 1) := by decide +kernel
theorem dX14_isLeftRound_39 : decode prog_13_method_15_code 39 = .ok (.getfield 36, 3) := by decide +kernel
theorem dX14_isLeftRound_42 : decode prog_13_method_15_code 42 = .ok (.iload_n 2, 1) := by decide +kernel
theorem dX14_isLeftRound_43 : decode prog_13_method_15_code 43 = .ok (.iload 4, 2) := by decide +kernel
theorem dX14_isLeftRound_45 : decode prog_13_method_15_code 45 = .ok (.iadd, 1) := by decide +kernel
theorem dX14_isLeftRound_46 : decode prog_13_method_15_code 46 = .ok (.iaload, 1) := by decide +kernel
theorem dX14_isLeftRound_47 : decode prog_13_method_15_code 47 = .ok (.if_icmp .lt 45, 3) := by decide +kernel
theorem dX14_isLeftRound_50 : decode prog_13_method_15_code 50 = .ok (.aload_n 0, 1) := by decide +kernel
theorem dX14_isLeftRound_51 : decode prog_13_method_15_code 51 = .ok (.getfield 36, 3) := by decide +kernel
theorem dX14_isLeftRound_54 : decode prog_13_method_15_code 54 = .ok (.iload_n 2, 1) := by decide +kernel
