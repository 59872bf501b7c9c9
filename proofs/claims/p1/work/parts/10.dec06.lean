theorem dX11_init_0 : decode prog_14_method_1_code 0 = .ok (.aload_n 0, 1) := by decide +kernel
theorem dX11_init_1 : decode prog_14_method_1_code 1 = .ok (.invokespecial 3, 3) := by decide +kernel
theorem dX11_init_4 : decode prog_14_method_1_code 4 = .ok (.aload_n 0, 1) := by decide +kernel
theorem dX11_init_5 : decode prog_14_method_1_code 5 = .ok (.bipush 8, 2) := by decide +kernel
theorem dX11_init_7 : decode prog_14_method_1_code 7 = .ok (.newarray .long, 2) := by decide +kernel
theorem dX11_init_9 : decode prog_14_method_1_code 9 = .ok (.putfield 9, 3) := by decide +kernel
theorem dX11_init_12 : decode prog_14_method_1_code 12 = .ok (.aload_n 0, 1) := by decide +kernel
theorem dX11_init_13 : decode prog_14_method_1_code 13 = .ok (.bipush 8, 2) := by decide +kernel
theorem dX11_init_15 : decode prog_14_method_1_code 15 = .ok (.newarray .long, 2) := by decide +kernel
theorem dX11_init_17 : decode prog_14_method_1_code 17 = .ok (.putfield 15, 3) := by decide +kernel
theorem dX11_init_20 : decode prog_14_method_1_code 20 = .ok (.return_, 1) := by decide +kernel
theorem dX12_init_0 : decode prog_15_method_1_code 0 = .ok (.aload_n 0, 1) := by decide +kernel
theorem dX12_init_1 : decode prog_15_method_1_code 1 = .ok (.invokespecial 3, 3) := by decide +kernel
theorem dX12_init_4 : decode prog_15_method_1_code 4 = .ok (.aload_n 0, 1) := by decide +kernel
theorem dX12_init_5 : decode prog_15_method_1_code 5 = .ok (.bipush 8, 2) := by decide +kernel
theorem dX12_init_7 : decode prog_15_method_1_code 7 = .ok (.newarray .int, 2) := by decide +kernel
theorem dX12_init_9 : decode prog_15_method_1_code 9 = .ok (.putfield 9, 3) := by decide +kernel
theorem dX12_init_12 : decode prog_15_method_1_code 12 = .ok (.aload_n 0, 1) := by decide +kernel
theorem dX12_init_13 : decode prog_15_method_1_code 13 = .ok (.bipush 40, 2) := by decide +kernel
theorem dX12_init_15 : decode prog_15_method_1_code 15 = .ok (.newarray .int, 2) := by decide +kernel
theorem dX12_init_17 : decode prog_15_method_1_code 17 = .ok (.putfield 15, 3) := by decide +kernel
theorem dX12_init_20 : decode prog_15_method_1_code 20 = .ok (.aload_n 0, 1) := by decide +kernel
theorem dX12_init_21 : decode prog_15_method_1_code 21 = .ok (.bipush 40, 2) := by decide +kernel
theorem dX12_init_23 : decode prog_15_method_1_code 23 = .ok (.newarray .int, 2) := by decide +kernel
theorem dX12_init_25 : decode prog_15_method_1_code 25 = .ok (.putfield 18, 3) := by decide +kernel
theorem dX12_init_28 : decode prog_15_method_1_code 28 = .ok (.return_, 1) := by decide +kernel
theorem dX13_init_0 : decode prog_16_method_1_code 0 = .ok (.aload_n 0, 1) := by decide +kernel
theorem dX13_init_1 : decode prog_16_method_1_code 1 = .ok (.invokespecial 3, 3) := by decide +kernel
theorem dX13_init_4 : decode prog_16_method_1_code 4 = .ok (.aload_n 0, 1) := by decide +kernel
theorem dX13_init_5 : decode prog_16_method_1_code 5 = .ok (.sipush 200, 3) := by decide +kernel
theorem dX13_init_8 : decode prog_16_method_1_code 8 = .ok (.anewarray 9, 3) := by decide +kernel
theorem dX13_init_11 : decode prog_16_method_1_code 11 = .ok (.putfield 11, 3) := by decide +kernel
theorem dX13_init_14 : decode prog_16_method_1_code 14 = .ok (.iconst 0, 1) := by decide +kernel
theorem dX13_init_15 : decode prog_16_method_1_code 15 = .ok (.istore_n 1, 1) := by decide +kernel
theorem dX13_init_16 : decode prog_16_method_1_code 16 = .ok (.iload_n 1, 1) := by decide +kernel
theorem dX13_init_17 : decode prog_16_method_1_code 17 = .ok (.sipush 200, 3) := by decide +kernel
theorem dX13_init_20 : decode prog_16_method_1_code 20 = .ok (.if_icmp .ge 22, 3) := by decide +kernel
theorem dX13_init_23 : decode prog_16_method_1_code 23 = .ok (.aload_n 0, 1) := by decide +kernel
theorem dX13_init_24 : decode prog_16_method_1_code 24 = .ok (.getfield 11, 3) := by decide +kernel
theorem dX13_init_27 : decode prog_16_method_1_code 27 = .ok (.iload_n 1, 1) := by decide +kernel
theorem dX13_init_28 : decode prog_16_method_1_code 28 = .ok (.new 9, 3) := by decide +kernel
theorem dX13_init_31 : decode prog_16_method_1_code 31 = .ok (.dup, 1) := by decide +kernel
theorem dX13_init_32 : decode prog_16_method_1_code 32 = .ok (.invokespecial 17, 3) := by decide +kernel
theorem dX13_init_35 : decode prog_16_method_1_code 35 = .ok (.aastore, 1) := by decide +kernel
theorem dX13_init_36 : decode prog_16_method_1_code 36 = .ok (.iinc 1 1, 3) := by decide +kernel
theorem dX13_init_39 : decode prog_16_method_1_code 39 = .ok (.goto (-23), 3) := by decide +kernel
theorem dX13_init_42 : decode prog_16_method_1_code 42 = .ok (.return_, 1) := by decide +kernel
theorem dX13_take_0 : decode prog_16_method_2_code 0 = .ok (.aload_n 0, 1) := by decide +kernel
theorem dX13_take_1 : decode prog_16_method_2_code 1 = .ok (.aload_n 1, 1) := by decide +kernel
theorem dX13_take_2 : decode prog_16_method_2_code 2 = .ok (.getfield 18, 3) := by decide +kernel
theorem dX13_take_5 : decode prog_16_method_2_code 5 = .ok (.putfield 18, 3) := by decide +kernel
theorem dX13_take_8 : decode prog_16_method_2_code 8 = .ok (.iconst 0, 1) := by decide +kernel
theorem dX13_take_9 : decode prog_16_method_2_code 9 = .ok (.istore_n 2, 1) := by decide +kernel
theorem dX13_take_10 : decode prog_16_method_2_code 10 = .ok (.iload_n 2, 1) := by decide +kernel
theorem dX13_take_11 : decode prog_16_method_2_code 11 = .ok (.aload_n 0, 1) := by decide +kernel
theorem dX13_take_12 : decode prog_16_method_2_code 12 = .ok (.getfield 18, 3) := by decide +kernel
theorem dX13_take_15 : decode prog_16_method_2_code 15 = .ok (.if_icmp .ge 24, 3) := by decide +kernel
theorem dX13_take_39 : decode prog_16_method_2_code 39 = .ok (.return_, 1) := by decide +kernel
theorem dX13_find_0 : decode prog_16_method_3_code 0 = .ok (.iconst 0, 1) := by decide +kernel
theorem dX13_find_1 : decode prog_16_method_3_code 1 = .ok (.istore_n 2, 1) := by decide +kernel
theorem dX13_find_2 : decode prog_16_method_3_code 2 = .ok (.iload_n 2, 1) := by decide +kernel
theorem dX13_find_3 : decode prog_16_method_3_code 3 = .ok (.aload_n 0, 1) := by decide +kernel
theorem dX13_find_4 : decode prog_16_method_3_code 4 = .ok (.getfield 18, 3) := by decide +kernel
theorem dX13_find_7 : decode prog_16_method_3_code 7 = .ok (.if_icmp .ge 24, 3) := by decide +kernel
theorem dX13_find_31 : decode prog_16_method_3_code 31 = .ok (.iconst (-1), 1) := by decide +kernel
theorem dX13_find_32 : decode prog_16_method_3_code 32 = .ok (.ireturn, 1) := by decide +kernel
