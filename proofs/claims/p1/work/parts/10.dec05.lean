theorem dX10_nearer_41 : decode prog_1_method_19_code 41 = .ok (.bipush (-2), 2) := by decide +kernel
theorem dX10_nearer_43 : decode prog_1_method_19_code 43 = .ok (.ireturn, 1) := by decide +kernel
theorem dX10_used_0 : decode prog_1_method_20_code 0 = .ok (.aload_n 0, 1) := by decide +kernel
theorem dX10_used_1 : decode prog_1_method_20_code 1 = .ok (.getfield 26, 3) := by decide +kernel
theorem dX10_used_4 : decode prog_1_method_20_code 4 = .ok (.getfield 80, 3) := by decide +kernel
theorem dX10_used_7 : decode prog_1_method_20_code 7 = .ok (.ifCond .eq 7, 3) := by decide +kernel
theorem dX10_used_10 : decode prog_1_method_20_code 10 = .ok (.iconst (-1), 1) := by decide +kernel
theorem dX10_used_11 : decode prog_1_method_20_code 11 = .ok (.goto 10, 3) := by decide +kernel
theorem dX10_used_14 : decode prog_1_method_20_code 14 = .ok (.aload_n 0, 1) := by decide +kernel
theorem dX10_used_15 : decode prog_1_method_20_code 15 = .ok (.getfield 26, 3) := by decide +kernel
theorem dX10_used_18 : decode prog_1_method_20_code 18 = .ok (.getfield 195, 3) := by decide +kernel
theorem dX10_used_21 : decode prog_1_method_20_code 21 = .ok (.ireturn, 1) := by decide +kernel
theorem dX10_saves_0 : decode prog_1_method_21_code 0 = .ok (.aload_n 0, 1) := by decide +kernel
theorem dX10_saves_1 : decode prog_1_method_21_code 1 = .ok (.getfield 26, 3) := by decide +kernel
theorem dX10_saves_4 : decode prog_1_method_21_code 4 = .ok (.getfield 198, 3) := by decide +kernel
theorem dX10_saves_7 : decode prog_1_method_21_code 7 = .ok (.ireturn, 1) := by decide +kernel
theorem dX10_flaws_0 : decode prog_1_method_22_code 0 = .ok (.aload_n 0, 1) := by decide +kernel
theorem dX10_flaws_1 : decode prog_1_method_22_code 1 = .ok (.getfield 26, 3) := by decide +kernel
theorem dX10_flaws_4 : decode prog_1_method_22_code 4 = .ok (.invokevirtual 201, 3) := by decide +kernel
theorem dX10_flaws_7 : decode prog_1_method_22_code 7 = .ok (.ireturn, 1) := by decide +kernel
theorem dX10_shapeOf_0 : decode prog_1_method_24_code 0 = .ok (.aload_n 0, 1) := by decide +kernel
theorem dX10_shapeOf_1 : decode prog_1_method_24_code 1 = .ok (.getfield 26, 3) := by decide +kernel
theorem dX10_shapeOf_4 : decode prog_1_method_24_code 4 = .ok (.getfield 80, 3) := by decide +kernel
theorem dX10_shapeOf_7 : decode prog_1_method_24_code 7 = .ok (.ifCond .eq 7, 3) := by decide +kernel
theorem dX10_shapeOf_10 : decode prog_1_method_24_code 10 = .ok (.aconst_null, 1) := by decide +kernel
theorem dX10_shapeOf_11 : decode prog_1_method_24_code 11 = .ok (.goto 14, 3) := by decide +kernel
theorem dX10_shapeOf_14 : decode prog_1_method_24_code 14 = .ok (.aload_n 0, 1) := by decide +kernel
theorem dX10_shapeOf_15 : decode prog_1_method_24_code 15 = .ok (.getfield 26, 3) := by decide +kernel
theorem dX10_shapeOf_18 : decode prog_1_method_24_code 18 = .ok (.getfield 145, 3) := by decide +kernel
theorem dX10_shapeOf_21 : decode prog_1_method_24_code 21 = .ok (.iload_n 1, 1) := by decide +kernel
theorem dX10_shapeOf_22 : decode prog_1_method_24_code 22 = .ok (.invokevirtual 208, 3) := by decide +kernel
theorem dX10_shapeOf_25 : decode prog_1_method_24_code 25 = .ok (.areturn, 1) := by decide +kernel
