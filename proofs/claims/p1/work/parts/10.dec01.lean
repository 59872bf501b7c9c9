theorem dX2_init_0 : decode prog_4_method_1_code 0 = .ok (.aload_n 0, 1) := by decide +kernel
theorem dX2_init_1 : decode prog_4_method_1_code 1 = .ok (.invokespecial 3, 3) := by decide +kernel
theorem dX2_init_4 : decode prog_4_method_1_code 4 = .ok (.aload_n 0, 1) := by decide +kernel
theorem dX2_init_5 : decode prog_4_method_1_code 5 = .ok (.lconst 1, 1) := by decide +kernel
theorem dX2_init_6 : decode prog_4_method_1_code 6 = .ok (.putfield 9, 3) := by decide +kernel
theorem dX2_init_9 : decode prog_4_method_1_code 9 = .ok (.return_, 1) := by decide +kernel
theorem dX3_init_0 : decode prog_5_method_1_code 0 = .ok (.aload_n 0, 1) := by decide +kernel
theorem dX3_init_1 : decode prog_5_method_1_code 1 = .ok (.invokespecial 3, 3) := by decide +kernel
theorem dX3_init_4 : decode prog_5_method_1_code 4 = .ok (.aload_n 0, 1) := by decide +kernel
theorem dX3_init_5 : decode prog_5_method_1_code 5 = .ok (.new 9, 3) := by decide +kernel
theorem dX3_init_8 : decode prog_5_method_1_code 8 = .ok (.dup, 1) := by decide +kernel
theorem dX3_init_9 : decode prog_5_method_1_code 9 = .ok (.invokespecial 11, 3) := by decide +kernel
theorem dX3_init_12 : decode prog_5_method_1_code 12 = .ok (.putfield 12, 3) := by decide +kernel
theorem dX3_init_15 : decode prog_5_method_1_code 15 = .ok (.aload_n 0, 1) := by decide +kernel
theorem dX3_init_16 : decode prog_5_method_1_code 16 = .ok (.new 9, 3) := by decide +kernel
theorem dX3_init_19 : decode prog_5_method_1_code 19 = .ok (.dup, 1) := by decide +kernel
theorem dX3_init_20 : decode prog_5_method_1_code 20 = .ok (.invokespecial 11, 3) := by decide +kernel
theorem dX3_init_23 : decode prog_5_method_1_code 23 = .ok (.putfield 18, 3) := by decide +kernel
theorem dX3_init_26 : decode prog_5_method_1_code 26 = .ok (.aload_n 0, 1) := by decide +kernel
theorem dX3_init_27 : decode prog_5_method_1_code 27 = .ok (.sipush 401, 3) := by decide +kernel
theorem dX3_init_30 : decode prog_5_method_1_code 30 = .ok (.anewarray 21, 3) := by decide +kernel
theorem dX3_init_33 : decode prog_5_method_1_code 33 = .ok (.putfield 23, 3) := by decide +kernel
theorem dX3_init_36 : decode prog_5_method_1_code 36 = .ok (.aload_n 0, 1) := by decide +kernel
theorem dX3_init_37 : decode prog_5_method_1_code 37 = .ok (.iconst (-1), 1) := by decide +kernel
theorem dX3_init_38 : decode prog_5_method_1_code 38 = .ok (.putfield 27, 3) := by decide +kernel
theorem dX3_init_41 : decode prog_5_method_1_code 41 = .ok (.return_, 1) := by decide +kernel
theorem dX3_restore_0 : decode prog_5_method_11_code 0 = .ok (.aload_n 0, 1) := by decide +kernel
theorem dX3_restore_1 : decode prog_5_method_11_code 1 = .ok (.getfield 12, 3) := by decide +kernel
theorem dX3_restore_4 : decode prog_5_method_11_code 4 = .ok (.aload_n 0, 1) := by decide +kernel
theorem dX3_restore_5 : decode prog_5_method_11_code 5 = .ok (.getfield 18, 3) := by decide +kernel
theorem dX3_restore_8 : decode prog_5_method_11_code 8 = .ok (.invokevirtual 65, 3) := by decide +kernel
theorem dX3_restore_11 : decode prog_5_method_11_code 11 = .ok (.aload_n 0, 1) := by decide +kernel
theorem dX3_restore_12 : decode prog_5_method_11_code 12 = .ok (.iconst 0, 1) := by decide +kernel
theorem dX3_restore_13 : decode prog_5_method_11_code 13 = .ok (.putfield 41, 3) := by decide +kernel
theorem dX3_restore_16 : decode prog_5_method_11_code 16 = .ok (.aload_n 0, 1) := by decide +kernel
theorem dX3_restore_17 : decode prog_5_method_11_code 17 = .ok (.iconst 0, 1) := by decide +kernel
theorem dX3_restore_18 : decode prog_5_method_11_code 18 = .ok (.putfield 75, 3) := by decide +kernel
theorem dX3_restore_21 : decode prog_5_method_11_code 21 = .ok (.aload_n 0, 1) := by decide +kernel
theorem dX3_restore_22 : decode prog_5_method_11_code 22 = .ok (.iconst (-1), 1) := by decide +kernel
theorem dX3_restore_23 : decode prog_5_method_11_code 23 = .ok (.putfield 27, 3) := by decide +kernel
theorem dX3_restore_26 : decode prog_5_method_11_code 26 = .ok (.return_, 1) := by decide +kernel
theorem dX3_countFlaws_0 : decode prog_5_method_12_code 0 = .ok (.aload_n 0, 1) := by decide +kernel
theorem dX3_countFlaws_1 : decode prog_5_method_12_code 1 = .ok (.getfield 12, 3) := by decide +kernel
theorem dX3_countFlaws_4 : decode prog_5_method_12_code 4 = .ok (.invokevirtual 81, 3) := by decide +kernel
theorem dX3_countFlaws_7 : decode prog_5_method_12_code 7 = .ok (.aload_n 0, 1) := by decide +kernel
theorem dX3_countFlaws_8 : decode prog_5_method_12_code 8 = .ok (.getfield 18, 3) := by decide +kernel
theorem dX3_countFlaws_11 : decode prog_5_method_12_code 11 = .ok (.invokevirtual 81, 3) := by decide +kernel
theorem dX3_countFlaws_14 : decode prog_5_method_12_code 14 = .ok (.iadd, 1) := by decide +kernel
theorem dX3_countFlaws_15 : decode prog_5_method_12_code 15 = .ok (.istore_n 1, 1) := by decide +kernel
theorem dX3_countFlaws_16 : decode prog_5_method_12_code 16 = .ok (.aload_n 0, 1) := by decide +kernel
theorem dX3_countFlaws_17 : decode prog_5_method_12_code 17 = .ok (.getfield 69, 3) := by decide +kernel
theorem dX3_countFlaws_20 : decode prog_5_method_12_code 20 = .ok (.ifCond .lt 29, 3) := by decide +kernel
theorem dX3_countFlaws_23 : decode prog_5_method_12_code 23 = .ok (.aload_n 0, 1) := by decide +kernel
theorem dX3_countFlaws_24 : decode prog_5_method_12_code 24 = .ok (.getfield 69, 3) := by decide +kernel
theorem dX3_countFlaws_27 : decode prog_5_method_12_code 27 = .ok (.bipush 64, 2) := by decide +kernel
theorem dX3_countFlaws_29 : decode prog_5_method_12_code 29 = .ok (.if_icmp .gt 20, 3) := by decide +kernel
theorem dX3_countFlaws_32 : decode prog_5_method_12_code 32 = .ok (.aload_n 0, 1) := by decide +kernel
theorem dX3_countFlaws_33 : decode prog_5_method_12_code 33 = .ok (.getfield 45, 3) := by decide +kernel
theorem dX3_countFlaws_36 : decode prog_5_method_12_code 36 = .ok (.ifCond .lt 13, 3) := by decide +kernel
theorem dX3_countFlaws_39 : decode prog_5_method_12_code 39 = .ok (.aload_n 0, 1) := by decide +kernel
theorem dX3_countFlaws_40 : decode prog_5_method_12_code 40 = .ok (.getfield 45, 3) := by decide +kernel
theorem dX3_countFlaws_43 : decode prog_5_method_12_code 43 = .ok (.sipush 14112, 3) := by decide +kernel
theorem dX3_countFlaws_46 : decode prog_5_method_12_code 46 = .ok (.if_icmp .le 6, 3) := by decide +kernel
theorem dX3_countFlaws_52 : decode prog_5_method_12_code 52 = .ok (.aload_n 0, 1) := by decide +kernel
theorem dX3_countFlaws_53 : decode prog_5_method_12_code 53 = .ok (.getfield 41, 3) := by decide +kernel
theorem dX3_countFlaws_56 : decode prog_5_method_12_code 56 = .ok (.ifCond .ne 30, 3) := by decide +kernel
theorem dX3_countFlaws_59 : decode prog_5_method_12_code 59 = .ok (.aload_n 0, 1) := by decide +kernel
theorem dX3_countFlaws_60 : decode prog_5_method_12_code 60 = .ok (.getfield 75, 3) := by decide +kernel
theorem dX3_countFlaws_63 : decode prog_5_method_12_code 63 = .ok (.ifCond .ne 23, 3) := by decide +kernel
theorem dX3_countFlaws_66 : decode prog_5_method_12_code 66 = .ok (.aload_n 0, 1) := by decide +kernel
theorem dX3_countFlaws_67 : decode prog_5_method_12_code 67 = .ok (.getfield 12, 3) := by decide +kernel
theorem dX3_countFlaws_70 : decode prog_5_method_12_code 70 = .ok (.getfield 84, 3) := by decide +kernel
theorem dX3_countFlaws_73 : decode prog_5_method_12_code 73 = .ok (.aload_n 0, 1) := by decide +kernel
theorem dX3_countFlaws_74 : decode prog_5_method_12_code 74 = .ok (.getfield 18, 3) := by decide +kernel
theorem dX3_countFlaws_77 : decode prog_5_method_12_code 77 = .ok (.getfield 84, 3) := by decide +kernel
theorem dX3_countFlaws_80 : decode prog_5_method_12_code 80 = .ok (.if_icmp .eq 6, 3) := by decide +kernel
theorem dX3_countFlaws_86 : decode prog_5_method_12_code 86 = .ok (.iload_n 1, 1) := by decide +kernel
theorem dX3_countFlaws_87 : decode prog_5_method_12_code 87 = .ok (.ireturn, 1) := by decide +kernel
