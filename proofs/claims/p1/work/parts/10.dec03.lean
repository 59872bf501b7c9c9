theorem dX7_init_0 : decode prog_9_method_1_code 0 = .ok (.aload_n 0, 1) := by decide +kernel
theorem dX7_init_1 : decode prog_9_method_1_code 1 = .ok (.invokespecial 3, 3) := by decide +kernel
theorem dX7_init_4 : decode prog_9_method_1_code 4 = .ok (.aload_n 0, 1) := by decide +kernel
theorem dX7_init_5 : decode prog_9_method_1_code 5 = .ok (.bipush 40, 2) := by decide +kernel
theorem dX7_init_7 : decode prog_9_method_1_code 7 = .ok (.newarray .int, 2) := by decide +kernel
theorem dX7_init_9 : decode prog_9_method_1_code 9 = .ok (.putfield 9, 3) := by decide +kernel
theorem dX7_init_12 : decode prog_9_method_1_code 12 = .ok (.aload_n 0, 1) := by decide +kernel
theorem dX7_init_13 : decode prog_9_method_1_code 13 = .ok (.bipush 40, 2) := by decide +kernel
theorem dX7_init_15 : decode prog_9_method_1_code 15 = .ok (.newarray .int, 2) := by decide +kernel
theorem dX7_init_17 : decode prog_9_method_1_code 17 = .ok (.putfield 15, 3) := by decide +kernel
theorem dX7_init_20 : decode prog_9_method_1_code 20 = .ok (.aload_n 0, 1) := by decide +kernel
theorem dX7_init_21 : decode prog_9_method_1_code 21 = .ok (.bipush 8, 2) := by decide +kernel
theorem dX7_init_23 : decode prog_9_method_1_code 23 = .ok (.newarray .int, 2) := by decide +kernel
theorem dX7_init_25 : decode prog_9_method_1_code 25 = .ok (.putfield 18, 3) := by decide +kernel
theorem dX7_init_28 : decode prog_9_method_1_code 28 = .ok (.aload_n 0, 1) := by decide +kernel
theorem dX7_init_29 : decode prog_9_method_1_code 29 = .ok (.bipush 40, 2) := by decide +kernel
theorem dX7_init_31 : decode prog_9_method_1_code 31 = .ok (.newarray .boolean, 2) := by decide +kernel
theorem dX7_init_33 : decode prog_9_method_1_code 33 = .ok (.putfield 21, 3) := by decide +kernel
theorem dX7_init_36 : decode prog_9_method_1_code 36 = .ok (.return_, 1) := by decide +kernel
theorem dX8_init_0 : decode prog_10_method_1_code 0 = .ok (.aload_n 0, 1) := by decide +kernel
theorem dX8_init_1 : decode prog_10_method_1_code 1 = .ok (.invokespecial 3, 3) := by decide +kernel
theorem dX8_init_4 : decode prog_10_method_1_code 4 = .ok (.aload_n 0, 1) := by decide +kernel
theorem dX8_init_5 : decode prog_10_method_1_code 5 = .ok (.sipush 200, 3) := by decide +kernel
theorem dX8_init_8 : decode prog_10_method_1_code 8 = .ok (.newarray .int, 2) := by decide +kernel
theorem dX8_init_10 : decode prog_10_method_1_code 10 = .ok (.putfield 9, 3) := by decide +kernel
theorem dX8_init_13 : decode prog_10_method_1_code 13 = .ok (.aload_n 0, 1) := by decide +kernel
theorem dX8_init_14 : decode prog_10_method_1_code 14 = .ok (.sipush 200, 3) := by decide +kernel
theorem dX8_init_17 : decode prog_10_method_1_code 17 = .ok (.anewarray 15, 3) := by decide +kernel
theorem dX8_init_20 : decode prog_10_method_1_code 20 = .ok (.putfield 17, 3) := by decide +kernel
theorem dX8_init_23 : decode prog_10_method_1_code 23 = .ok (.aload_n 0, 1) := by decide +kernel
theorem dX8_init_24 : decode prog_10_method_1_code 24 = .ok (.iconst 0, 1) := by decide +kernel
theorem dX8_init_25 : decode prog_10_method_1_code 25 = .ok (.putfield 21, 3) := by decide +kernel
theorem dX8_init_28 : decode prog_10_method_1_code 28 = .ok (.return_, 1) := by decide +kernel
theorem dX8_indexOf_0 : decode prog_10_method_2_code 0 = .ok (.iconst 0, 1) := by decide +kernel
theorem dX8_indexOf_1 : decode prog_10_method_2_code 1 = .ok (.istore_n 2, 1) := by decide +kernel
theorem dX8_indexOf_2 : decode prog_10_method_2_code 2 = .ok (.iload_n 2, 1) := by decide +kernel
theorem dX8_indexOf_3 : decode prog_10_method_2_code 3 = .ok (.aload_n 0, 1) := by decide +kernel
theorem dX8_indexOf_4 : decode prog_10_method_2_code 4 = .ok (.getfield 21, 3) := by decide +kernel
theorem dX8_indexOf_7 : decode prog_10_method_2_code 7 = .ok (.if_icmp .ge 21, 3) := by decide +kernel
theorem dX8_indexOf_10 : decode prog_10_method_2_code 10 = .ok (.aload_n 0, 1) := by decide +kernel
theorem dX8_indexOf_11 : decode prog_10_method_2_code 11 = .ok (.getfield 9, 3) := by decide +kernel
theorem dX8_indexOf_14 : decode prog_10_method_2_code 14 = .ok (.iload_n 2, 1) := by decide +kernel
theorem dX8_indexOf_15 : decode prog_10_method_2_code 15 = .ok (.iaload, 1) := by decide +kernel
theorem dX8_indexOf_16 : decode prog_10_method_2_code 16 = .ok (.iload_n 1, 1) := by decide +kernel
theorem dX8_indexOf_17 : decode prog_10_method_2_code 17 = .ok (.if_icmp .ne 5, 3) := by decide +kernel
theorem dX8_indexOf_20 : decode prog_10_method_2_code 20 = .ok (.iload_n 2, 1) := by decide +kernel
theorem dX8_indexOf_21 : decode prog_10_method_2_code 21 = .ok (.ireturn, 1) := by decide +kernel
theorem dX8_indexOf_22 : decode prog_10_method_2_code 22 = .ok (.iinc 2 1, 3) := by decide +kernel
theorem dX8_indexOf_25 : decode prog_10_method_2_code 25 = .ok (.goto (-23), 3) := by decide +kernel
theorem dX8_indexOf_28 : decode prog_10_method_2_code 28 = .ok (.iconst (-1), 1) := by decide +kernel
theorem dX8_indexOf_29 : decode prog_10_method_2_code 29 = .ok (.ireturn, 1) := by decide +kernel
theorem dX8_shapeWith_0 : decode prog_10_method_3_code 0 = .ok (.aload_n 0, 1) := by decide +kernel
theorem dX8_shapeWith_1 : decode prog_10_method_3_code 1 = .ok (.iload_n 1, 1) := by decide +kernel
theorem dX8_shapeWith_2 : decode prog_10_method_3_code 2 = .ok (.invokevirtual 25, 3) := by decide +kernel
theorem dX8_shapeWith_5 : decode prog_10_method_3_code 5 = .ok (.istore_n 2, 1) := by decide +kernel
theorem dX8_shapeWith_6 : decode prog_10_method_3_code 6 = .ok (.iload_n 2, 1) := by decide +kernel
theorem dX8_shapeWith_7 : decode prog_10_method_3_code 7 = .ok (.ifCond .ge 7, 3) := by decide +kernel
theorem dX8_shapeWith_10 : decode prog_10_method_3_code 10 = .ok (.aconst_null, 1) := by decide +kernel
theorem dX8_shapeWith_11 : decode prog_10_method_3_code 11 = .ok (.goto 9, 3) := by decide +kernel
theorem dX8_shapeWith_14 : decode prog_10_method_3_code 14 = .ok (.aload_n 0, 1) := by decide +kernel
theorem dX8_shapeWith_15 : decode prog_10_method_3_code 15 = .ok (.getfield 17, 3) := by decide +kernel
theorem dX8_shapeWith_18 : decode prog_10_method_3_code 18 = .ok (.iload_n 2, 1) := by decide +kernel
theorem dX8_shapeWith_19 : decode prog_10_method_3_code 19 = .ok (.aaload, 1) := by decide +kernel
theorem dX8_shapeWith_20 : decode prog_10_method_3_code 20 = .ok (.areturn, 1) := by decide +kernel
