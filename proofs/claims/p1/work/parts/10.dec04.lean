theorem dX8_copyFrom_0 : decode prog_10_method_7_code 0 = .ok (.iconst 0, 1) := by decide +kernel
theorem dX8_copyFrom_1 : decode prog_10_method_7_code 1 = .ok (.istore_n 2, 1) := by decide +kernel
theorem dX8_copyFrom_2 : decode prog_10_method_7_code 2 = .ok (.iload_n 2, 1) := by decide +kernel
theorem dX8_copyFrom_3 : decode prog_10_method_7_code 3 = .ok (.aload_n 0, 1) := by decide +kernel
theorem dX8_copyFrom_4 : decode prog_10_method_7_code 4 = .ok (.getfield 21, 3) := by decide +kernel
theorem dX8_copyFrom_7 : decode prog_10_method_7_code 7 = .ok (.if_icmp .ge 24, 3) := by decide +kernel
theorem dX8_copyFrom_31 : decode prog_10_method_7_code 31 = .ok (.aload_n 0, 1) := by decide +kernel
theorem dX8_copyFrom_32 : decode prog_10_method_7_code 32 = .ok (.aload_n 1, 1) := by decide +kernel
theorem dX8_copyFrom_33 : decode prog_10_method_7_code 33 = .ok (.getfield 21, 3) := by decide +kernel
theorem dX8_copyFrom_36 : decode prog_10_method_7_code 36 = .ok (.putfield 21, 3) := by decide +kernel
theorem dX8_copyFrom_39 : decode prog_10_method_7_code 39 = .ok (.iconst 0, 1) := by decide +kernel
theorem dX8_copyFrom_40 : decode prog_10_method_7_code 40 = .ok (.istore_n 2, 1) := by decide +kernel
theorem dX8_copyFrom_41 : decode prog_10_method_7_code 41 = .ok (.iload_n 2, 1) := by decide +kernel
theorem dX8_copyFrom_42 : decode prog_10_method_7_code 42 = .ok (.aload_n 0, 1) := by decide +kernel
theorem dX8_copyFrom_43 : decode prog_10_method_7_code 43 = .ok (.getfield 21, 3) := by decide +kernel
theorem dX8_copyFrom_46 : decode prog_10_method_7_code 46 = .ok (.if_icmp .ge 48, 3) := by decide +kernel
theorem dX8_copyFrom_94 : decode prog_10_method_7_code 94 = .ok (.return_, 1) := by decide +kernel
theorem dX8_countBadRows_0 : decode prog_10_method_8_code 0 = .ok (.iconst 0, 1) := by decide +kernel
theorem dX8_countBadRows_1 : decode prog_10_method_8_code 1 = .ok (.istore_n 1, 1) := by decide +kernel
theorem dX8_countBadRows_2 : decode prog_10_method_8_code 2 = .ok (.iconst 0, 1) := by decide +kernel
theorem dX8_countBadRows_3 : decode prog_10_method_8_code 3 = .ok (.istore_n 2, 1) := by decide +kernel
theorem dX8_countBadRows_4 : decode prog_10_method_8_code 4 = .ok (.iload_n 2, 1) := by decide +kernel
theorem dX8_countBadRows_5 : decode prog_10_method_8_code 5 = .ok (.aload_n 0, 1) := by decide +kernel
theorem dX8_countBadRows_6 : decode prog_10_method_8_code 6 = .ok (.getfield 21, 3) := by decide +kernel
theorem dX8_countBadRows_9 : decode prog_10_method_8_code 9 = .ok (.if_icmp .ge 124, 3) := by decide +kernel
theorem dX8_countBadRows_133 : decode prog_10_method_8_code 133 = .ok (.iload_n 1, 1) := by decide +kernel
theorem dX8_countBadRows_134 : decode prog_10_method_8_code 134 = .ok (.ireturn, 1) := by decide +kernel
theorem dX9_init_0 : decode prog_11_method_1_code 0 = .ok (.aload_n 0, 1) := by decide +kernel
theorem dX9_init_1 : decode prog_11_method_1_code 1 = .ok (.invokespecial 3, 3) := by decide +kernel
theorem dX9_init_4 : decode prog_11_method_1_code 4 = .ok (.aload_n 0, 1) := by decide +kernel
theorem dX9_init_5 : decode prog_11_method_1_code 5 = .ok (.sipush 4000, 3) := by decide +kernel
theorem dX9_init_8 : decode prog_11_method_1_code 8 = .ok (.newarray .byte, 2) := by decide +kernel
theorem dX9_init_10 : decode prog_11_method_1_code 10 = .ok (.putfield 9, 3) := by decide +kernel
theorem dX9_init_13 : decode prog_11_method_1_code 13 = .ok (.aload_n 0, 1) := by decide +kernel
theorem dX9_init_14 : decode prog_11_method_1_code 14 = .ok (.iconst 0, 1) := by decide +kernel
theorem dX9_init_15 : decode prog_11_method_1_code 15 = .ok (.putfield 15, 3) := by decide +kernel
theorem dX9_init_18 : decode prog_11_method_1_code 18 = .ok (.return_, 1) := by decide +kernel
theorem dX9_append_0 : decode prog_11_method_2_code 0 = .ok (.bipush 56, 2) := by decide +kernel
theorem dX9_append_2 : decode prog_11_method_2_code 2 = .ok (.istore_n 3, 1) := by decide +kernel
theorem dX9_append_3 : decode prog_11_method_2_code 3 = .ok (.iload_n 3, 1) := by decide +kernel
theorem dX9_append_4 : decode prog_11_method_2_code 4 = .ok (.ifCond .lt 43, 3) := by decide +kernel
theorem dX9_append_7 : decode prog_11_method_2_code 7 = .ok (.aload_n 0, 1) := by decide +kernel
theorem dX9_append_8 : decode prog_11_method_2_code 8 = .ok (.getfield 15, 3) := by decide +kernel
theorem dX9_append_11 : decode prog_11_method_2_code 11 = .ok (.sipush 4000, 3) := by decide +kernel
theorem dX9_append_14 : decode prog_11_method_2_code 14 = .ok (.if_icmp .ge 33, 3) := by decide +kernel
theorem dX9_append_17 : decode prog_11_method_2_code 17 = .ok (.aload_n 0, 1) := by decide +kernel
theorem dX9_append_18 : decode prog_11_method_2_code 18 = .ok (.getfield 9, 3) := by decide +kernel
theorem dX9_append_21 : decode prog_11_method_2_code 21 = .ok (.aload_n 0, 1) := by decide +kernel
theorem dX9_append_22 : decode prog_11_method_2_code 22 = .ok (.getfield 15, 3) := by decide +kernel
theorem dX9_append_25 : decode prog_11_method_2_code 25 = .ok (.lload_n 1, 1) := by decide +kernel
theorem dX9_append_26 : decode prog_11_method_2_code 26 = .ok (.iload_n 3, 1) := by decide +kernel
theorem dX9_append_27 : decode prog_11_method_2_code 27 = .ok (.lushr, 1) := by decide +kernel
theorem dX9_append_28 : decode prog_11_method_2_code 28 = .ok (.l2i, 1) := by decide +kernel
theorem dX9_append_29 : decode prog_11_method_2_code 29 = .ok (.i2b, 1) := by decide +kernel
theorem dX9_append_30 : decode prog_11_method_2_code 30 = .ok (.bastore, 1) := by decide +kernel
theorem dX9_append_31 : decode prog_11_method_2_code 31 = .ok (.aload_n 0, 1) := by decide +kernel
theorem dX9_append_32 : decode prog_11_method_2_code 32 = .ok (.dup, 1) := by decide +kernel
theorem dX9_append_33 : decode prog_11_method_2_code 33 = .ok (.getfield 15, 3) := by decide +kernel
theorem dX9_append_36 : decode prog_11_method_2_code 36 = .ok (.iconst 1, 1) := by decide +kernel
theorem dX9_append_37 : decode prog_11_method_2_code 37 = .ok (.iadd, 1) := by decide +kernel
theorem dX9_append_38 : decode prog_11_method_2_code 38 = .ok (.putfield 15, 3) := by decide +kernel
theorem dX9_append_41 : decode prog_11_method_2_code 41 = .ok (.iinc 3 (-8), 3) := by decide +kernel
theorem dX9_append_44 : decode prog_11_method_2_code 44 = .ok (.goto (-41), 3) := by decide +kernel
theorem dX9_append_47 : decode prog_11_method_2_code 47 = .ok (.return_, 1) := by decide +kernel
theorem dX9_clear_0 : decode prog_11_method_3_code 0 = .ok (.aload_n 0, 1) := by decide +kernel
theorem dX9_clear_1 : decode prog_11_method_3_code 1 = .ok (.iconst 0, 1) := by decide +kernel
theorem dX9_clear_2 : decode prog_11_method_3_code 2 = .ok (.putfield 15, 3) := by decide +kernel
theorem dX9_clear_5 : decode prog_11_method_3_code 5 = .ok (.return_, 1) := by decide +kernel
theorem dX9_rewind_0 : decode prog_11_method_4_code 0 = .ok (.aload_n 0, 1) := by decide +kernel
theorem dX9_rewind_1 : decode prog_11_method_4_code 1 = .ok (.iconst 0, 1) := by decide +kernel
theorem dX9_rewind_2 : decode prog_11_method_4_code 2 = .ok (.putfield 19, 3) := by decide +kernel
theorem dX9_rewind_5 : decode prog_11_method_4_code 5 = .ok (.aload_n 0, 1) := by decide +kernel
theorem dX9_rewind_6 : decode prog_11_method_4_code 6 = .ok (.invokevirtual 22, 3) := by decide +kernel
theorem dX9_rewind_9 : decode prog_11_method_4_code 9 = .ok (.return_, 1) := by decide +kernel
theorem dX9_advance_0 : decode prog_11_method_5_code 0 = .ok (.aload_n 0, 1) := by decide +kernel
theorem dX9_advance_1 : decode prog_11_method_5_code 1 = .ok (.getfield 19, 3) := by decide +kernel
theorem dX9_advance_4 : decode prog_11_method_5_code 4 = .ok (.istore_n 1, 1) := by decide +kernel
theorem dX9_advance_5 : decode prog_11_method_5_code 5 = .ok (.iload_n 1, 1) := by decide +kernel
theorem dX9_advance_6 : decode prog_11_method_5_code 6 = .ok (.aload_n 0, 1) := by decide +kernel
theorem dX9_advance_7 : decode prog_11_method_5_code 7 = .ok (.getfield 15, 3) := by decide +kernel
theorem dX9_advance_10 : decode prog_11_method_5_code 10 = .ok (.if_icmp .ge 31, 3) := by decide +kernel
theorem dX9_advance_41 : decode prog_11_method_5_code 41 = .ok (.aload_n 0, 1) := by decide +kernel
theorem dX9_advance_42 : decode prog_11_method_5_code 42 = .ok (.iload_n 1, 1) := by decide +kernel
theorem dX9_advance_43 : decode prog_11_method_5_code 43 = .ok (.putfield 25, 3) := by decide +kernel
theorem dX9_advance_46 : decode prog_11_method_5_code 46 = .ok (.aload_n 0, 1) := by decide +kernel
theorem dX9_advance_47 : decode prog_11_method_5_code 47 = .ok (.iload_n 1, 1) := by decide +kernel
theorem dX9_advance_48 : decode prog_11_method_5_code 48 = .ok (.putfield 19, 3) := by decide +kernel
theorem dX9_advance_51 : decode prog_11_method_5_code 51 = .ok (.iload_n 1, 1) := by decide +kernel
theorem dX9_advance_52 : decode prog_11_method_5_code 52 = .ok (.aload_n 0, 1) := by decide +kernel
theorem dX9_advance_53 : decode prog_11_method_5_code 53 = .ok (.getfield 15, 3) := by decide +kernel
theorem dX9_advance_56 : decode prog_11_method_5_code 56 = .ok (.if_icmp .lt 11, 3) := by decide +kernel
theorem dX9_advance_59 : decode prog_11_method_5_code 59 = .ok (.aload_n 0, 1) := by decide +kernel
theorem dX9_advance_60 : decode prog_11_method_5_code 60 = .ok (.iconst 0, 1) := by decide +kernel
theorem dX9_advance_61 : decode prog_11_method_5_code 61 = .ok (.putfield 28, 3) := by decide +kernel
theorem dX9_advance_64 : decode prog_11_method_5_code 64 = .ok (.goto 142, 3) := by decide +kernel
theorem dX9_advance_206 : decode prog_11_method_5_code 206 = .ok (.return_, 1) := by decide +kernel
theorem dX10_init_0 : decode prog_1_method_1_code 0 = .ok (.aload_n 0, 1) := by decide +kernel
theorem dX10_init_1 : decode prog_1_method_1_code 1 = .ok (.invokespecial 1, 3) := by decide +kernel
theorem dX10_init_4 : decode prog_1_method_1_code 4 = .ok (.aload_n 0, 1) := by decide +kernel
theorem dX10_init_5 : decode prog_1_method_1_code 5 = .ok (.new 7, 3) := by decide +kernel
theorem dX10_init_8 : decode prog_1_method_1_code 8 = .ok (.dup, 1) := by decide +kernel
theorem dX10_init_9 : decode prog_1_method_1_code 9 = .ok (.invokespecial 9, 3) := by decide +kernel
theorem dX10_init_12 : decode prog_1_method_1_code 12 = .ok (.putfield 10, 3) := by decide +kernel
theorem dX10_init_15 : decode prog_1_method_1_code 15 = .ok (.aload_n 0, 1) := by decide +kernel
theorem dX10_init_16 : decode prog_1_method_1_code 16 = .ok (.new 16, 3) := by decide +kernel
theorem dX10_init_19 : decode prog_1_method_1_code 19 = .ok (.dup, 1) := by decide +kernel
theorem dX10_init_20 : decode prog_1_method_1_code 20 = .ok (.invokespecial 18, 3) := by decide +kernel
theorem dX10_init_23 : decode prog_1_method_1_code 23 = .ok (.putfield 19, 3) := by decide +kernel
theorem dX10_init_26 : decode prog_1_method_1_code 26 = .ok (.aload_n 0, 1) := by decide +kernel
theorem dX10_init_27 : decode prog_1_method_1_code 27 = .ok (.new 23, 3) := by decide +kernel
theorem dX10_init_30 : decode prog_1_method_1_code 30 = .ok (.dup, 1) := by decide +kernel
theorem dX10_init_31 : decode prog_1_method_1_code 31 = .ok (.invokespecial 25, 3) := by decide +kernel
theorem dX10_init_34 : decode prog_1_method_1_code 34 = .ok (.putfield 26, 3) := by decide +kernel
theorem dX10_init_37 : decode prog_1_method_1_code 37 = .ok (.new 30, 3) := by decide +kernel
theorem dX10_init_40 : decode prog_1_method_1_code 40 = .ok (.dup, 1) := by decide +kernel
theorem dX10_init_41 : decode prog_1_method_1_code 41 = .ok (.invokespecial 32, 3) := by decide +kernel
theorem dX10_init_44 : decode prog_1_method_1_code 44 = .ok (.astore_n 1, 1) := by decide +kernel
theorem dX10_init_45 : decode prog_1_method_1_code 45 = .ok (.aload_n 0, 1) := by decide +kernel
theorem dX10_init_46 : decode prog_1_method_1_code 46 = .ok (.new 33, 3) := by decide +kernel
theorem dX10_init_49 : decode prog_1_method_1_code 49 = .ok (.dup, 1) := by decide +kernel
theorem dX10_init_50 : decode prog_1_method_1_code 50 = .ok (.aload_n 1, 1) := by decide +kernel
theorem dX10_init_51 : decode prog_1_method_1_code 51 = .ok (.invokespecial 35, 3) := by decide +kernel
theorem dX10_init_54 : decode prog_1_method_1_code 54 = .ok (.putfield 38, 3) := by decide +kernel
theorem dX10_init_57 : decode prog_1_method_1_code 57 = .ok (.aload_n 0, 1) := by decide +kernel
theorem dX10_init_58 : decode prog_1_method_1_code 58 = .ok (.new 42, 3) := by decide +kernel
theorem dX10_init_61 : decode prog_1_method_1_code 61 = .ok (.dup, 1) := by decide +kernel
theorem dX10_init_62 : decode prog_1_method_1_code 62 = .ok (.aload_n 1, 1) := by decide +kernel
theorem dX10_init_63 : decode prog_1_method_1_code 63 = .ok (.invokespecial 44, 3) := by decide +kernel
theorem dX10_init_66 : decode prog_1_method_1_code 66 = .ok (.putfield 45, 3) := by decide +kernel
theorem dX10_init_69 : decode prog_1_method_1_code 69 = .ok (.aload_n 0, 1) := by decide +kernel
theorem dX10_init_70 : decode prog_1_method_1_code 70 = .ok (.sipush 200, 3) := by decide +kernel
theorem dX10_init_73 : decode prog_1_method_1_code 73 = .ok (.anewarray 49, 3) := by decide +kernel
theorem dX10_init_76 : decode prog_1_method_1_code 76 = .ok (.putfield 51, 3) := by decide +kernel
theorem dX10_init_79 : decode prog_1_method_1_code 79 = .ok (.iconst 0, 1) := by decide +kernel
theorem dX10_init_80 : decode prog_1_method_1_code 80 = .ok (.istore_n 2, 1) := by decide +kernel
theorem dX10_init_81 : decode prog_1_method_1_code 81 = .ok (.iload_n 2, 1) := by decide +kernel
theorem dX10_init_82 : decode prog_1_method_1_code 82 = .ok (.sipush 200, 3) := by decide +kernel
theorem dX10_init_85 : decode prog_1_method_1_code 85 = .ok (.if_icmp .ge 22, 3) := by decide +kernel
theorem dX10_init_88 : decode prog_1_method_1_code 88 = .ok (.aload_n 0, 1) := by decide +kernel
theorem dX10_init_89 : decode prog_1_method_1_code 89 = .ok (.getfield 51, 3) := by decide +kernel
theorem dX10_init_92 : decode prog_1_method_1_code 92 = .ok (.iload_n 2, 1) := by decide +kernel
theorem dX10_init_93 : decode prog_1_method_1_code 93 = .ok (.new 49, 3) := by decide +kernel
theorem dX10_init_96 : decode prog_1_method_1_code 96 = .ok (.dup, 1) := by decide +kernel
theorem dX10_init_97 : decode prog_1_method_1_code 97 = .ok (.invokespecial 55, 3) := by decide +kernel
theorem dX10_init_100 : decode prog_1_method_1_code 100 = .ok (.aastore, 1) := by decide +kernel
theorem dX10_init_101 : decode prog_1_method_1_code 101 = .ok (.iinc 2 1, 3) := by decide +kernel
theorem dX10_init_104 : decode prog_1_method_1_code 104 = .ok (.goto (-23), 3) := by decide +kernel
theorem dX10_init_107 : decode prog_1_method_1_code 107 = .ok (.aload_n 0, 1) := by decide +kernel
theorem dX10_init_108 : decode prog_1_method_1_code 108 = .ok (.sipush 200, 3) := by decide +kernel
theorem dX10_init_111 : decode prog_1_method_1_code 111 = .ok (.newarray .int, 2) := by decide +kernel
theorem dX10_init_113 : decode prog_1_method_1_code 113 = .ok (.putfield 56, 3) := by decide +kernel
theorem dX10_init_116 : decode prog_1_method_1_code 116 = .ok (.aload_n 0, 1) := by decide +kernel
theorem dX10_init_117 : decode prog_1_method_1_code 117 = .ok (.sipush 20000, 3) := by decide +kernel
theorem dX10_init_120 : decode prog_1_method_1_code 120 = .ok (.newarray .int, 2) := by decide +kernel
theorem dX10_init_122 : decode prog_1_method_1_code 122 = .ok (.putfield 60, 3) := by decide +kernel
theorem dX10_init_125 : decode prog_1_method_1_code 125 = .ok (.aload_n 0, 1) := by decide +kernel
theorem dX10_init_126 : decode prog_1_method_1_code 126 = .ok (.iconst 0, 1) := by decide +kernel
theorem dX10_init_127 : decode prog_1_method_1_code 127 = .ok (.putfield 63, 3) := by decide +kernel
theorem dX10_init_130 : decode prog_1_method_1_code 130 = .ok (.aload_n 0, 1) := by decide +kernel
theorem dX10_init_131 : decode prog_1_method_1_code 131 = .ok (.iconst 0, 1) := by decide +kernel
theorem dX10_init_132 : decode prog_1_method_1_code 132 = .ok (.putfield 67, 3) := by decide +kernel
theorem dX10_init_135 : decode prog_1_method_1_code 135 = .ok (.aload_n 0, 1) := by decide +kernel
theorem dX10_init_136 : decode prog_1_method_1_code 136 = .ok (.iconst (-1), 1) := by decide +kernel
theorem dX10_init_137 : decode prog_1_method_1_code 137 = .ok (.putfield 70, 3) := by decide +kernel
theorem dX10_init_140 : decode prog_1_method_1_code 140 = .ok (.return_, 1) := by decide +kernel
theorem dX10_feed_0 : decode prog_1_method_2_code 0 = .ok (.aload_n 0, 1) := by decide +kernel
theorem dX10_feed_1 : decode prog_1_method_2_code 1 = .ok (.getfield 10, 3) := by decide +kernel
theorem dX10_feed_4 : decode prog_1_method_2_code 4 = .ok (.getfield 73, 3) := by decide +kernel
theorem dX10_feed_7 : decode prog_1_method_2_code 7 = .ok (.bipush 40, 2) := by decide +kernel
theorem dX10_feed_9 : decode prog_1_method_2_code 9 = .ok (.iadd, 1) := by decide +kernel
theorem dX10_feed_10 : decode prog_1_method_2_code 10 = .ok (.sipush 4000, 3) := by decide +kernel
theorem dX10_feed_13 : decode prog_1_method_2_code 13 = .ok (.if_icmp .le 5, 3) := by decide +kernel
theorem dX10_feed_16 : decode prog_1_method_2_code 16 = .ok (.iconst (-1), 1) := by decide +kernel
theorem dX10_feed_17 : decode prog_1_method_2_code 17 = .ok (.ireturn, 1) := by decide +kernel
theorem dX10_feed_18 : decode prog_1_method_2_code 18 = .ok (.aload_n 0, 1) := by decide +kernel
theorem dX10_feed_19 : decode prog_1_method_2_code 19 = .ok (.getfield 10, 3) := by decide +kernel
theorem dX10_feed_22 : decode prog_1_method_2_code 22 = .ok (.lload_n 1, 1) := by decide +kernel
theorem dX10_feed_23 : decode prog_1_method_2_code 23 = .ok (.invokevirtual 76, 3) := by decide +kernel
theorem dX10_feed_26 : decode prog_1_method_2_code 26 = .ok (.aload_n 0, 1) := by decide +kernel
theorem dX10_feed_27 : decode prog_1_method_2_code 27 = .ok (.getfield 10, 3) := by decide +kernel
theorem dX10_feed_30 : decode prog_1_method_2_code 30 = .ok (.lload_n 3, 1) := by decide +kernel
theorem dX10_feed_31 : decode prog_1_method_2_code 31 = .ok (.invokevirtual 76, 3) := by decide +kernel
theorem dX10_feed_34 : decode prog_1_method_2_code 34 = .ok (.aload_n 0, 1) := by decide +kernel
theorem dX10_feed_35 : decode prog_1_method_2_code 35 = .ok (.getfield 10, 3) := by decide +kernel
theorem dX10_feed_38 : decode prog_1_method_2_code 38 = .ok (.lload 5, 2) := by decide +kernel
theorem dX10_feed_40 : decode prog_1_method_2_code 40 = .ok (.invokevirtual 76, 3) := by decide +kernel
theorem dX10_feed_43 : decode prog_1_method_2_code 43 = .ok (.aload_n 0, 1) := by decide +kernel
theorem dX10_feed_44 : decode prog_1_method_2_code 44 = .ok (.getfield 10, 3) := by decide +kernel
theorem dX10_feed_47 : decode prog_1_method_2_code 47 = .ok (.lload 7, 2) := by decide +kernel
theorem dX10_feed_49 : decode prog_1_method_2_code 49 = .ok (.invokevirtual 76, 3) := by decide +kernel
theorem dX10_feed_52 : decode prog_1_method_2_code 52 = .ok (.aload_n 0, 1) := by decide +kernel
theorem dX10_feed_53 : decode prog_1_method_2_code 53 = .ok (.getfield 10, 3) := by decide +kernel
theorem dX10_feed_56 : decode prog_1_method_2_code 56 = .ok (.lload 9, 2) := by decide +kernel
theorem dX10_feed_58 : decode prog_1_method_2_code 58 = .ok (.invokevirtual 76, 3) := by decide +kernel
theorem dX10_feed_61 : decode prog_1_method_2_code 61 = .ok (.aload_n 0, 1) := by decide +kernel
theorem dX10_feed_62 : decode prog_1_method_2_code 62 = .ok (.getfield 10, 3) := by decide +kernel
theorem dX10_feed_65 : decode prog_1_method_2_code 65 = .ok (.getfield 73, 3) := by decide +kernel
theorem dX10_feed_68 : decode prog_1_method_2_code 68 = .ok (.ireturn, 1) := by decide +kernel
theorem dX10_end_0 : decode prog_1_method_3_code 0 = .ok (.iload_n 1, 1) := by decide +kernel
theorem dX10_end_1 : decode prog_1_method_3_code 1 = .ok (.ifCond .lt 23, 3) := by decide +kernel
theorem dX10_end_4 : decode prog_1_method_3_code 4 = .ok (.iload_n 1, 1) := by decide +kernel
theorem dX10_end_5 : decode prog_1_method_3_code 5 = .ok (.bipush 40, 2) := by decide +kernel
theorem dX10_end_7 : decode prog_1_method_3_code 7 = .ok (.if_icmp .gt 17, 3) := by decide +kernel
theorem dX10_end_10 : decode prog_1_method_3_code 10 = .ok (.aload_n 0, 1) := by decide +kernel
theorem dX10_end_11 : decode prog_1_method_3_code 11 = .ok (.getfield 10, 3) := by decide +kernel
theorem dX10_end_14 : decode prog_1_method_3_code 14 = .ok (.getfield 73, 3) := by decide +kernel
theorem dX10_end_17 : decode prog_1_method_3_code 17 = .ok (.bipush 40, 2) := by decide +kernel
theorem dX10_end_19 : decode prog_1_method_3_code 19 = .ok (.iload_n 1, 1) := by decide +kernel
theorem dX10_end_20 : decode prog_1_method_3_code 20 = .ok (.isub, 1) := by decide +kernel
theorem dX10_end_21 : decode prog_1_method_3_code 21 = .ok (.if_icmp .ge 5, 3) := by decide +kernel
theorem dX10_end_24 : decode prog_1_method_3_code 24 = .ok (.iconst (-1), 1) := by decide +kernel
theorem dX10_end_25 : decode prog_1_method_3_code 25 = .ok (.ireturn, 1) := by decide +kernel
theorem dX10_end_26 : decode prog_1_method_3_code 26 = .ok (.aload_n 0, 1) := by decide +kernel
theorem dX10_end_27 : decode prog_1_method_3_code 27 = .ok (.getfield 10, 3) := by decide +kernel
theorem dX10_end_30 : decode prog_1_method_3_code 30 = .ok (.dup, 1) := by decide +kernel
theorem dX10_end_31 : decode prog_1_method_3_code 31 = .ok (.getfield 73, 3) := by decide +kernel
theorem dX10_end_34 : decode prog_1_method_3_code 34 = .ok (.bipush 40, 2) := by decide +kernel
theorem dX10_end_36 : decode prog_1_method_3_code 36 = .ok (.iload_n 1, 1) := by decide +kernel
theorem dX10_end_37 : decode prog_1_method_3_code 37 = .ok (.isub, 1) := by decide +kernel
theorem dX10_end_38 : decode prog_1_method_3_code 38 = .ok (.isub, 1) := by decide +kernel
theorem dX10_end_39 : decode prog_1_method_3_code 39 = .ok (.putfield 73, 3) := by decide +kernel
theorem dX10_end_42 : decode prog_1_method_3_code 42 = .ok (.aload_n 0, 1) := by decide +kernel
theorem dX10_end_43 : decode prog_1_method_3_code 43 = .ok (.getfield 10, 3) := by decide +kernel
theorem dX10_end_46 : decode prog_1_method_3_code 46 = .ok (.getfield 73, 3) := by decide +kernel
theorem dX10_end_49 : decode prog_1_method_3_code 49 = .ok (.ireturn, 1) := by decide +kernel
theorem dX10_run_0 : decode prog_1_method_4_code 0 = .ok (.aload_n 0, 1) := by decide +kernel
theorem dX10_run_1 : decode prog_1_method_4_code 1 = .ok (.getfield 26, 3) := by decide +kernel
theorem dX10_run_4 : decode prog_1_method_4_code 4 = .ok (.getfield 80, 3) := by decide +kernel
theorem dX10_run_7 : decode prog_1_method_4_code 7 = .ok (.ifCond .eq 5, 3) := by decide +kernel
theorem dX10_run_12 : decode prog_1_method_4_code 12 = .ok (.aload_n 0, 1) := by decide +kernel
theorem dX10_run_13 : decode prog_1_method_4_code 13 = .ok (.iconst 0, 1) := by decide +kernel
theorem dX10_run_14 : decode prog_1_method_4_code 14 = .ok (.putfield 63, 3) := by decide +kernel
theorem dX10_run_17 : decode prog_1_method_4_code 17 = .ok (.aload_n 0, 1) := by decide +kernel
theorem dX10_run_18 : decode prog_1_method_4_code 18 = .ok (.iconst (-1), 1) := by decide +kernel
theorem dX10_run_19 : decode prog_1_method_4_code 19 = .ok (.putfield 70, 3) := by decide +kernel
theorem dX10_run_22 : decode prog_1_method_4_code 22 = .ok (.iconst 0, 1) := by decide +kernel
theorem dX10_run_23 : decode prog_1_method_4_code 23 = .ok (.istore_n 1, 1) := by decide +kernel
theorem dX10_run_24 : decode prog_1_method_4_code 24 = .ok (.aload_n 0, 1) := by decide +kernel
theorem dX10_run_25 : decode prog_1_method_4_code 25 = .ok (.getfield 10, 3) := by decide +kernel
theorem dX10_run_28 : decode prog_1_method_4_code 28 = .ok (.invokevirtual 84, 3) := by decide +kernel
theorem dX10_run_31 : decode prog_1_method_4_code 31 = .ok (.iload_n 1, 1) := by decide +kernel
theorem dX10_run_32 : decode prog_1_method_4_code 32 = .ok (.sipush 4000, 3) := by decide +kernel
theorem dX10_run_35 : decode prog_1_method_4_code 35 = .ok (.if_icmp .ge 219, 3) := by decide +kernel
theorem dX10_run_38 : decode prog_1_method_4_code 38 = .ok (.aload_n 0, 1) := by decide +kernel
theorem dX10_run_39 : decode prog_1_method_4_code 39 = .ok (.getfield 10, 3) := by decide +kernel
theorem dX10_run_42 : decode prog_1_method_4_code 42 = .ok (.getfield 87, 3) := by decide +kernel
theorem dX10_run_45 : decode prog_1_method_4_code 45 = .ok (.ifCond .eq 209, 3) := by decide +kernel
theorem dX10_run_254 : decode prog_1_method_4_code 254 = .ok (.aload_n 0, 1) := by decide +kernel
theorem dX10_run_255 : decode prog_1_method_4_code 255 = .ok (.getfield 10, 3) := by decide +kernel
theorem dX10_run_258 : decode prog_1_method_4_code 258 = .ok (.invokevirtual 133, 3) := by decide +kernel
theorem dX10_run_261 : decode prog_1_method_4_code 261 = .ok (.iload_n 1, 1) := by decide +kernel
theorem dX10_run_262 : decode prog_1_method_4_code 262 = .ok (.ireturn, 1) := by decide +kernel
theorem dX10_wrong_0 : decode prog_1_method_5_code 0 = .ok (.aload_n 0, 1) := by decide +kernel
theorem dX10_wrong_1 : decode prog_1_method_5_code 1 = .ok (.getfield 70, 3) := by decide +kernel
theorem dX10_wrong_4 : decode prog_1_method_5_code 4 = .ok (.ireturn, 1) := by decide +kernel
theorem dX10_outputs_0 : decode prog_1_method_6_code 0 = .ok (.aload_n 0, 1) := by decide +kernel
theorem dX10_outputs_1 : decode prog_1_method_6_code 1 = .ok (.getfield 63, 3) := by decide +kernel
theorem dX10_outputs_4 : decode prog_1_method_6_code 4 = .ok (.ireturn, 1) := by decide +kernel
theorem dX10_out_0 : decode prog_1_method_7_code 0 = .ok (.iload_n 1, 1) := by decide +kernel
theorem dX10_out_1 : decode prog_1_method_7_code 1 = .ok (.ifCond .lt 20, 3) := by decide +kernel
theorem dX10_out_4 : decode prog_1_method_7_code 4 = .ok (.iload_n 1, 1) := by decide +kernel
theorem dX10_out_5 : decode prog_1_method_7_code 5 = .ok (.aload_n 0, 1) := by decide +kernel
theorem dX10_out_6 : decode prog_1_method_7_code 6 = .ok (.getfield 63, 3) := by decide +kernel
theorem dX10_out_9 : decode prog_1_method_7_code 9 = .ok (.if_icmp .ge 12, 3) := by decide +kernel
theorem dX10_out_12 : decode prog_1_method_7_code 12 = .ok (.aload_n 0, 1) := by decide +kernel
theorem dX10_out_13 : decode prog_1_method_7_code 13 = .ok (.getfield 60, 3) := by decide +kernel
theorem dX10_out_16 : decode prog_1_method_7_code 16 = .ok (.iload_n 1, 1) := by decide +kernel
theorem dX10_out_17 : decode prog_1_method_7_code 17 = .ok (.iaload, 1) := by decide +kernel
theorem dX10_out_18 : decode prog_1_method_7_code 18 = .ok (.goto 4, 3) := by decide +kernel
theorem dX10_out_21 : decode prog_1_method_7_code 21 = .ok (.iconst 0, 1) := by decide +kernel
theorem dX10_out_22 : decode prog_1_method_7_code 22 = .ok (.ireturn, 1) := by decide +kernel
theorem dX10_crash_0 : decode prog_1_method_8_code 0 = .ok (.aload_n 0, 1) := by decide +kernel
theorem dX10_crash_1 : decode prog_1_method_8_code 1 = .ok (.getfield 26, 3) := by decide +kernel
theorem dX10_crash_4 : decode prog_1_method_8_code 4 = .ok (.getfield 80, 3) := by decide +kernel
theorem dX10_crash_7 : decode prog_1_method_8_code 7 = .ok (.ifCond .ne 35, 3) := by decide +kernel
theorem dX10_crash_10 : decode prog_1_method_8_code 10 = .ok (.iload_n 1, 1) := by decide +kernel
theorem dX10_crash_11 : decode prog_1_method_8_code 11 = .ok (.ifCond .lt 31, 3) := by decide +kernel
theorem dX10_crash_14 : decode prog_1_method_8_code 14 = .ok (.iload_n 1, 1) := by decide +kernel
theorem dX10_crash_15 : decode prog_1_method_8_code 15 = .ok (.iconst 1, 1) := by decide +kernel
theorem dX10_crash_16 : decode prog_1_method_8_code 16 = .ok (.if_icmp .gt 26, 3) := by decide +kernel
theorem dX10_crash_19 : decode prog_1_method_8_code 19 = .ok (.iload_n 2, 1) := by decide +kernel
theorem dX10_crash_20 : decode prog_1_method_8_code 20 = .ok (.iconst 1, 1) := by decide +kernel
theorem dX10_crash_21 : decode prog_1_method_8_code 21 = .ok (.if_icmp .lt 21, 3) := by decide +kernel
theorem dX10_crash_24 : decode prog_1_method_8_code 24 = .ok (.iload_n 2, 1) := by decide +kernel
theorem dX10_crash_25 : decode prog_1_method_8_code 25 = .ok (.sipush 1000, 3) := by decide +kernel
theorem dX10_crash_28 : decode prog_1_method_8_code 28 = .ok (.if_icmp .gt 14, 3) := by decide +kernel
theorem dX10_crash_31 : decode prog_1_method_8_code 31 = .ok (.iload_n 3, 1) := by decide +kernel
theorem dX10_crash_32 : decode prog_1_method_8_code 32 = .ok (.ifCond .lt 10, 3) := by decide +kernel
theorem dX10_crash_35 : decode prog_1_method_8_code 35 = .ok (.iload_n 3, 1) := by decide +kernel
theorem dX10_crash_36 : decode prog_1_method_8_code 36 = .ok (.sipush 200, 3) := by decide +kernel
theorem dX10_crash_39 : decode prog_1_method_8_code 39 = .ok (.if_icmp .le 5, 3) := by decide +kernel
theorem dX10_crash_42 : decode prog_1_method_8_code 42 = .ok (.iconst 0, 1) := by decide +kernel
theorem dX10_crash_43 : decode prog_1_method_8_code 43 = .ok (.ireturn, 1) := by decide +kernel
theorem dX10_crash_44 : decode prog_1_method_8_code 44 = .ok (.aload_n 0, 1) := by decide +kernel
theorem dX10_crash_45 : decode prog_1_method_8_code 45 = .ok (.getfield 26, 3) := by decide +kernel
theorem dX10_crash_48 : decode prog_1_method_8_code 48 = .ok (.iload_n 1, 1) := by decide +kernel
theorem dX10_crash_49 : decode prog_1_method_8_code 49 = .ok (.putfield 136, 3) := by decide +kernel
theorem dX10_crash_52 : decode prog_1_method_8_code 52 = .ok (.aload_n 0, 1) := by decide +kernel
theorem dX10_crash_53 : decode prog_1_method_8_code 53 = .ok (.getfield 26, 3) := by decide +kernel
theorem dX10_crash_56 : decode prog_1_method_8_code 56 = .ok (.iload_n 2, 1) := by decide +kernel
theorem dX10_crash_57 : decode prog_1_method_8_code 57 = .ok (.putfield 139, 3) := by decide +kernel
theorem dX10_crash_60 : decode prog_1_method_8_code 60 = .ok (.iconst 1, 1) := by decide +kernel
theorem dX10_crash_61 : decode prog_1_method_8_code 61 = .ok (.ireturn, 1) := by decide +kernel
theorem dX10_recover_0 : decode prog_1_method_9_code 0 = .ok (.aload_n 0, 1) := by decide +kernel
theorem dX10_recover_1 : decode prog_1_method_9_code 1 = .ok (.getfield 26, 3) := by decide +kernel
theorem dX10_recover_4 : decode prog_1_method_9_code 4 = .ok (.invokevirtual 142, 3) := by decide +kernel
theorem dX10_recover_7 : decode prog_1_method_9_code 7 = .ok (.aload_n 0, 1) := by decide +kernel
theorem dX10_recover_8 : decode prog_1_method_9_code 8 = .ok (.getfield 26, 3) := by decide +kernel
theorem dX10_recover_11 : decode prog_1_method_9_code 11 = .ok (.getfield 145, 3) := by decide +kernel
theorem dX10_recover_14 : decode prog_1_method_9_code 14 = .ok (.getfield 149, 3) := by decide +kernel
theorem dX10_recover_17 : decode prog_1_method_9_code 17 = .ok (.ireturn, 1) := by decide +kernel
theorem dX10_isDown_0 : decode prog_1_method_10_code 0 = .ok (.aload_n 0, 1) := by decide +kernel
theorem dX10_isDown_1 : decode prog_1_method_10_code 1 = .ok (.getfield 26, 3) := by decide +kernel
theorem dX10_isDown_4 : decode prog_1_method_10_code 4 = .ok (.getfield 80, 3) := by decide +kernel
theorem dX10_isDown_7 : decode prog_1_method_10_code 7 = .ok (.ireturn, 1) := by decide +kernel
theorem dX10_isOpen_0 : decode prog_1_method_11_code 0 = .ok (.aload_n 0, 1) := by decide +kernel
theorem dX10_isOpen_1 : decode prog_1_method_11_code 1 = .ok (.getfield 26, 3) := by decide +kernel
theorem dX10_isOpen_4 : decode prog_1_method_11_code 4 = .ok (.getfield 154, 3) := by decide +kernel
theorem dX10_isOpen_7 : decode prog_1_method_11_code 7 = .ok (.ifCond .eq 17, 3) := by decide +kernel
theorem dX10_isOpen_10 : decode prog_1_method_11_code 10 = .ok (.aload_n 0, 1) := by decide +kernel
theorem dX10_isOpen_11 : decode prog_1_method_11_code 11 = .ok (.getfield 26, 3) := by decide +kernel
theorem dX10_isOpen_14 : decode prog_1_method_11_code 14 = .ok (.getfield 80, 3) := by decide +kernel
theorem dX10_isOpen_17 : decode prog_1_method_11_code 17 = .ok (.ifCond .ne 7, 3) := by decide +kernel
theorem dX10_isOpen_20 : decode prog_1_method_11_code 20 = .ok (.iconst 1, 1) := by decide +kernel
theorem dX10_isOpen_21 : decode prog_1_method_11_code 21 = .ok (.goto 4, 3) := by decide +kernel
theorem dX10_isOpen_24 : decode prog_1_method_11_code 24 = .ok (.iconst 0, 1) := by decide +kernel
theorem dX10_isOpen_25 : decode prog_1_method_11_code 25 = .ok (.ireturn, 1) := by decide +kernel
theorem dX10_live_0 : decode prog_1_method_12_code 0 = .ok (.aload_n 0, 1) := by decide +kernel
theorem dX10_live_1 : decode prog_1_method_12_code 1 = .ok (.getfield 26, 3) := by decide +kernel
theorem dX10_live_4 : decode prog_1_method_12_code 4 = .ok (.getfield 80, 3) := by decide +kernel
theorem dX10_live_7 : decode prog_1_method_12_code 7 = .ok (.ifCond .eq 7, 3) := by decide +kernel
theorem dX10_live_10 : decode prog_1_method_12_code 10 = .ok (.iconst (-1), 1) := by decide +kernel
theorem dX10_live_11 : decode prog_1_method_12_code 11 = .ok (.goto 13, 3) := by decide +kernel
theorem dX10_live_14 : decode prog_1_method_12_code 14 = .ok (.aload_n 0, 1) := by decide +kernel
theorem dX10_live_15 : decode prog_1_method_12_code 15 = .ok (.getfield 26, 3) := by decide +kernel
theorem dX10_live_18 : decode prog_1_method_12_code 18 = .ok (.getfield 145, 3) := by decide +kernel
theorem dX10_live_21 : decode prog_1_method_12_code 21 = .ok (.getfield 149, 3) := by decide +kernel
theorem dX10_live_24 : decode prog_1_method_12_code 24 = .ok (.ireturn, 1) := by decide +kernel
theorem dX10_idAt_0 : decode prog_1_method_13_code 0 = .ok (.aload_n 0, 1) := by decide +kernel
theorem dX10_idAt_1 : decode prog_1_method_13_code 1 = .ok (.getfield 26, 3) := by decide +kernel
theorem dX10_idAt_4 : decode prog_1_method_13_code 4 = .ok (.getfield 80, 3) := by decide +kernel
theorem dX10_idAt_7 : decode prog_1_method_13_code 7 = .ok (.ifCond .ne 21, 3) := by decide +kernel
theorem dX10_idAt_10 : decode prog_1_method_13_code 10 = .ok (.iload_n 1, 1) := by decide +kernel
theorem dX10_idAt_11 : decode prog_1_method_13_code 11 = .ok (.ifCond .lt 17, 3) := by decide +kernel
theorem dX10_idAt_14 : decode prog_1_method_13_code 14 = .ok (.iload_n 1, 1) := by decide +kernel
theorem dX10_idAt_15 : decode prog_1_method_13_code 15 = .ok (.aload_n 0, 1) := by decide +kernel
theorem dX10_idAt_16 : decode prog_1_method_13_code 16 = .ok (.getfield 26, 3) := by decide +kernel
theorem dX10_idAt_19 : decode prog_1_method_13_code 19 = .ok (.getfield 145, 3) := by decide +kernel
theorem dX10_idAt_22 : decode prog_1_method_13_code 22 = .ok (.getfield 149, 3) := by decide +kernel
theorem dX10_idAt_25 : decode prog_1_method_13_code 25 = .ok (.if_icmp .lt 5, 3) := by decide +kernel
theorem dX10_idAt_28 : decode prog_1_method_13_code 28 = .ok (.iconst (-1), 1) := by decide +kernel
theorem dX10_idAt_29 : decode prog_1_method_13_code 29 = .ok (.ireturn, 1) := by decide +kernel
theorem dX10_idAt_30 : decode prog_1_method_13_code 30 = .ok (.aload_n 0, 1) := by decide +kernel
theorem dX10_idAt_31 : decode prog_1_method_13_code 31 = .ok (.getfield 26, 3) := by decide +kernel
theorem dX10_idAt_34 : decode prog_1_method_13_code 34 = .ok (.getfield 145, 3) := by decide +kernel
theorem dX10_idAt_37 : decode prog_1_method_13_code 37 = .ok (.getfield 157, 3) := by decide +kernel
theorem dX10_idAt_40 : decode prog_1_method_13_code 40 = .ok (.iload_n 1, 1) := by decide +kernel
theorem dX10_idAt_41 : decode prog_1_method_13_code 41 = .ok (.iaload, 1) := by decide +kernel
theorem dX10_idAt_42 : decode prog_1_method_13_code 42 = .ok (.ireturn, 1) := by decide +kernel
theorem dX10_kindOf_0 : decode prog_1_method_14_code 0 = .ok (.aload_n 0, 1) := by decide +kernel
theorem dX10_kindOf_1 : decode prog_1_method_14_code 1 = .ok (.iload_n 1, 1) := by decide +kernel
theorem dX10_kindOf_2 : decode prog_1_method_14_code 2 = .ok (.invokevirtual 160, 3) := by decide +kernel
theorem dX10_kindOf_5 : decode prog_1_method_14_code 5 = .ok (.astore_n 2, 1) := by decide +kernel
theorem dX10_kindOf_6 : decode prog_1_method_14_code 6 = .ok (.aload_n 2, 1) := by decide +kernel
theorem dX10_kindOf_7 : decode prog_1_method_14_code 7 = .ok (.ifnonnull 7, 3) := by decide +kernel
theorem dX10_kindOf_10 : decode prog_1_method_14_code 10 = .ok (.iconst (-1), 1) := by decide +kernel
theorem dX10_kindOf_11 : decode prog_1_method_14_code 11 = .ok (.goto 7, 3) := by decide +kernel
theorem dX10_kindOf_14 : decode prog_1_method_14_code 14 = .ok (.aload_n 2, 1) := by decide +kernel
theorem dX10_kindOf_15 : decode prog_1_method_14_code 15 = .ok (.getfield 164, 3) := by decide +kernel
theorem dX10_kindOf_18 : decode prog_1_method_14_code 18 = .ok (.ireturn, 1) := by decide +kernel
theorem dX10_places_0 : decode prog_1_method_15_code 0 = .ok (.aload_n 0, 1) := by decide +kernel
theorem dX10_places_1 : decode prog_1_method_15_code 1 = .ok (.iload_n 1, 1) := by decide +kernel
theorem dX10_places_2 : decode prog_1_method_15_code 2 = .ok (.invokevirtual 160, 3) := by decide +kernel
theorem dX10_places_5 : decode prog_1_method_15_code 5 = .ok (.astore_n 2, 1) := by decide +kernel
theorem dX10_places_6 : decode prog_1_method_15_code 6 = .ok (.aload_n 2, 1) := by decide +kernel
theorem dX10_places_7 : decode prog_1_method_15_code 7 = .ok (.ifnonnull 7, 3) := by decide +kernel
theorem dX10_places_10 : decode prog_1_method_15_code 10 = .ok (.iconst (-1), 1) := by decide +kernel
theorem dX10_places_11 : decode prog_1_method_15_code 11 = .ok (.goto 7, 3) := by decide +kernel
theorem dX10_places_14 : decode prog_1_method_15_code 14 = .ok (.aload_n 2, 1) := by decide +kernel
theorem dX10_places_15 : decode prog_1_method_15_code 15 = .ok (.getfield 169, 3) := by decide +kernel
theorem dX10_places_18 : decode prog_1_method_15_code 18 = .ok (.ireturn, 1) := by decide +kernel
theorem dX10_rings_0 : decode prog_1_method_16_code 0 = .ok (.aload_n 0, 1) := by decide +kernel
theorem dX10_rings_1 : decode prog_1_method_16_code 1 = .ok (.iload_n 1, 1) := by decide +kernel
theorem dX10_rings_2 : decode prog_1_method_16_code 2 = .ok (.invokevirtual 160, 3) := by decide +kernel
theorem dX10_rings_5 : decode prog_1_method_16_code 5 = .ok (.astore_n 2, 1) := by decide +kernel
theorem dX10_rings_6 : decode prog_1_method_16_code 6 = .ok (.aload_n 2, 1) := by decide +kernel
theorem dX10_rings_7 : decode prog_1_method_16_code 7 = .ok (.ifnonnull 7, 3) := by decide +kernel
theorem dX10_rings_10 : decode prog_1_method_16_code 10 = .ok (.iconst (-1), 1) := by decide +kernel
theorem dX10_rings_11 : decode prog_1_method_16_code 11 = .ok (.goto 7, 3) := by decide +kernel
theorem dX10_rings_14 : decode prog_1_method_16_code 14 = .ok (.aload_n 2, 1) := by decide +kernel
theorem dX10_rings_15 : decode prog_1_method_16_code 15 = .ok (.getfield 170, 3) := by decide +kernel
theorem dX10_rings_18 : decode prog_1_method_16_code 18 = .ok (.ireturn, 1) := by decide +kernel
theorem dX10_at_0 : decode prog_1_method_17_code 0 = .ok (.aload_n 0, 1) := by decide +kernel
theorem dX10_at_1 : decode prog_1_method_17_code 1 = .ok (.iload_n 1, 1) := by decide +kernel
theorem dX10_at_2 : decode prog_1_method_17_code 2 = .ok (.invokevirtual 160, 3) := by decide +kernel
theorem dX10_at_5 : decode prog_1_method_17_code 5 = .ok (.astore 4, 2) := by decide +kernel
theorem dX10_at_7 : decode prog_1_method_17_code 7 = .ok (.aload 4, 2) := by decide +kernel
theorem dX10_at_9 : decode prog_1_method_17_code 9 = .ok (.ifnull 25, 3) := by decide +kernel
theorem dX10_at_34 : decode prog_1_method_17_code 34 = .ok (.iconst 0, 1) := by decide +kernel
theorem dX10_at_35 : decode prog_1_method_17_code 35 = .ok (.ireturn, 1) := by decide +kernel
theorem dX10_relate_0 : decode prog_1_method_18_code 0 = .ok (.aload_n 0, 1) := by decide +kernel
theorem dX10_relate_1 : decode prog_1_method_18_code 1 = .ok (.iload_n 2, 1) := by decide +kernel
theorem dX10_relate_2 : decode prog_1_method_18_code 2 = .ok (.invokevirtual 160, 3) := by decide +kernel
theorem dX10_relate_5 : decode prog_1_method_18_code 5 = .ok (.astore 4, 2) := by decide +kernel
theorem dX10_relate_7 : decode prog_1_method_18_code 7 = .ok (.aload_n 0, 1) := by decide +kernel
theorem dX10_relate_8 : decode prog_1_method_18_code 8 = .ok (.iload_n 3, 1) := by decide +kernel
theorem dX10_relate_9 : decode prog_1_method_18_code 9 = .ok (.invokevirtual 160, 3) := by decide +kernel
theorem dX10_relate_12 : decode prog_1_method_18_code 12 = .ok (.astore 5, 2) := by decide +kernel
theorem dX10_relate_14 : decode prog_1_method_18_code 14 = .ok (.aload 4, 2) := by decide +kernel
theorem dX10_relate_16 : decode prog_1_method_18_code 16 = .ok (.ifnull 17, 3) := by decide +kernel
theorem dX10_relate_33 : decode prog_1_method_18_code 33 = .ok (.iconst (-1), 1) := by decide +kernel
theorem dX10_relate_34 : decode prog_1_method_18_code 34 = .ok (.ireturn, 1) := by decide +kernel
theorem dX10_nearer_0 : decode prog_1_method_19_code 0 = .ok (.aload_n 0, 1) := by decide +kernel
theorem dX10_nearer_1 : decode prog_1_method_19_code 1 = .ok (.iload_n 1, 1) := by decide +kernel
theorem dX10_nearer_2 : decode prog_1_method_19_code 2 = .ok (.invokevirtual 160, 3) := by decide +kernel
theorem dX10_nearer_5 : decode prog_1_method_19_code 5 = .ok (.astore 5, 2) := by decide +kernel
theorem dX10_nearer_7 : decode prog_1_method_19_code 7 = .ok (.aload_n 0, 1) := by decide +kernel
theorem dX10_nearer_8 : decode prog_1_method_19_code 8 = .ok (.iload_n 2, 1) := by decide +kernel
theorem dX10_nearer_9 : decode prog_1_method_19_code 9 = .ok (.invokevirtual 160, 3) := by decide +kernel
theorem dX10_nearer_12 : decode prog_1_method_19_code 12 = .ok (.astore 6, 2) := by decide +kernel
theorem dX10_nearer_14 : decode prog_1_method_19_code 14 = .ok (.aload 5, 2) := by decide +kernel
theorem dX10_nearer_16 : decode prog_1_method_19_code 16 = .ok (.ifnull 25, 3) := by decide +kernel
