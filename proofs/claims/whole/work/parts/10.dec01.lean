theorem dX1_sortCuts_78 : decode prog_3_method_9_code 78 = .ok (.iload 7, 2) := by decide +kernel
theorem dX1_sortCuts_80 : decode prog_3_method_9_code 80 = .ok (.iconst 1, 1) := by decide +kernel
theorem dX1_sortCuts_81 : decode prog_3_method_9_code 81 = .ok (.isub, 1) := by decide +kernel
theorem dX1_sortCuts_82 : decode prog_3_method_9_code 82 = .ok (.laload, 1) := by decide +kernel
theorem dX1_sortCuts_83 : decode prog_3_method_9_code 83 = .ok (.lastore, 1) := by decide +kernel
theorem dX1_sortCuts_84 : decode prog_3_method_9_code 84 = .ok (.aload_n 0, 1) := by decide +kernel
theorem dX1_sortCuts_85 : decode prog_3_method_9_code 85 = .ok (.getfield 22, 3) := by decide +kernel
theorem dX1_sortCuts_88 : decode prog_3_method_9_code 88 = .ok (.iload 7, 2) := by decide +kernel
theorem dX1_sortCuts_90 : decode prog_3_method_9_code 90 = .ok (.aload_n 0, 1) := by decide +kernel
theorem dX1_sortCuts_91 : decode prog_3_method_9_code 91 = .ok (.getfield 22, 3) := by decide +kernel
theorem dX1_sortCuts_94 : decode prog_3_method_9_code 94 = .ok (.iload 7, 2) := by decide +kernel
theorem dX1_sortCuts_96 : decode prog_3_method_9_code 96 = .ok (.iconst 1, 1) := by decide +kernel
theorem dX1_sortCuts_97 : decode prog_3_method_9_code 97 = .ok (.isub, 1) := by decide +kernel
theorem dX1_sortCuts_98 : decode prog_3_method_9_code 98 = .ok (.laload, 1) := by decide +kernel
theorem dX1_sortCuts_99 : decode prog_3_method_9_code 99 = .ok (.lastore, 1) := by decide +kernel
theorem dX1_sortCuts_100 : decode prog_3_method_9_code 100 = .ok (.aload_n 0, 1) := by decide +kernel
theorem dX1_sortCuts_101 : decode prog_3_method_9_code 101 = .ok (.getfield 25, 3) := by decide +kernel
theorem dX1_sortCuts_104 : decode prog_3_method_9_code 104 = .ok (.iload 7, 2) := by decide +kernel
theorem dX1_sortCuts_106 : decode prog_3_method_9_code 106 = .ok (.aload_n 0, 1) := by decide +kernel
theorem dX1_sortCuts_107 : decode prog_3_method_9_code 107 = .ok (.getfield 25, 3) := by decide +kernel
theorem dX1_sortCuts_110 : decode prog_3_method_9_code 110 = .ok (.iload 7, 2) := by decide +kernel
theorem dX1_sortCuts_112 : decode prog_3_method_9_code 112 = .ok (.iconst 1, 1) := by decide +kernel
theorem dX1_sortCuts_113 : decode prog_3_method_9_code 113 = .ok (.isub, 1) := by decide +kernel
theorem dX1_sortCuts_114 : decode prog_3_method_9_code 114 = .ok (.iaload, 1) := by decide +kernel
theorem dX1_sortCuts_115 : decode prog_3_method_9_code 115 = .ok (.iastore, 1) := by decide +kernel
theorem dX1_sortCuts_116 : decode prog_3_method_9_code 116 = .ok (.iinc 7 (-1), 3) := by decide +kernel
theorem dX1_sortCuts_119 : decode prog_3_method_9_code 119 = .ok (.goto (-83), 3) := by decide +kernel
theorem dX1_sortCuts_122 : decode prog_3_method_9_code 122 = .ok (.aload_n 0, 1) := by decide +kernel
theorem dX1_sortCuts_123 : decode prog_3_method_9_code 123 = .ok (.getfield 18, 3) := by decide +kernel
theorem dX1_sortCuts_126 : decode prog_3_method_9_code 126 = .ok (.iload 7, 2) := by decide +kernel
theorem dX1_sortCuts_128 : decode prog_3_method_9_code 128 = .ok (.lload_n 2, 1) := by decide +kernel
theorem dX1_sortCuts_129 : decode prog_3_method_9_code 129 = .ok (.lastore, 1) := by decide +kernel
theorem dX1_sortCuts_130 : decode prog_3_method_9_code 130 = .ok (.aload_n 0, 1) := by decide +kernel
theorem dX1_sortCuts_131 : decode prog_3_method_9_code 131 = .ok (.getfield 22, 3) := by decide +kernel
theorem dX1_sortCuts_134 : decode prog_3_method_9_code 134 = .ok (.iload 7, 2) := by decide +kernel
theorem dX1_sortCuts_136 : decode prog_3_method_9_code 136 = .ok (.lload 4, 2) := by decide +kernel
theorem dX1_sortCuts_138 : decode prog_3_method_9_code 138 = .ok (.lastore, 1) := by decide +kernel
theorem dX1_sortCuts_139 : decode prog_3_method_9_code 139 = .ok (.aload_n 0, 1) := by decide +kernel
theorem dX1_sortCuts_140 : decode prog_3_method_9_code 140 = .ok (.getfield 25, 3) := by decide +kernel
theorem dX1_sortCuts_143 : decode prog_3_method_9_code 143 = .ok (.iload 7, 2) := by decide +kernel
theorem dX1_sortCuts_145 : decode prog_3_method_9_code 145 = .ok (.iload 6, 2) := by decide +kernel
theorem dX1_sortCuts_147 : decode prog_3_method_9_code 147 = .ok (.iastore, 1) := by decide +kernel
theorem dX1_sortCuts_148 : decode prog_3_method_9_code 148 = .ok (.iinc 1 1, 3) := by decide +kernel
theorem dX1_sortCuts_151 : decode prog_3_method_9_code 151 = .ok (.goto (-149), 3) := by decide +kernel
theorem dX1_sortCuts_154 : decode prog_3_method_9_code 154 = .ok (.return_, 1) := by decide +kernel
theorem dX1_sweep_0 : decode prog_3_method_10_code 0 = .ok (.iconst 0, 1) := by decide +kernel
theorem dX1_sweep_1 : decode prog_3_method_10_code 1 = .ok (.istore_n 1, 1) := by decide +kernel
theorem dX1_sweep_2 : decode prog_3_method_10_code 2 = .ok (.lconst 0, 1) := by decide +kernel
theorem dX1_sweep_3 : decode prog_3_method_10_code 3 = .ok (.lstore_n 2, 1) := by decide +kernel
theorem dX1_sweep_4 : decode prog_3_method_10_code 4 = .ok (.lconst 1, 1) := by decide +kernel
theorem dX1_sweep_5 : decode prog_3_method_10_code 5 = .ok (.lstore 4, 2) := by decide +kernel
theorem dX1_sweep_7 : decode prog_3_method_10_code 7 = .ok (.iconst 0, 1) := by decide +kernel
theorem dX1_sweep_8 : decode prog_3_method_10_code 8 = .ok (.istore 6, 2) := by decide +kernel
theorem dX1_sweep_10 : decode prog_3_method_10_code 10 = .ok (.iload 6, 2) := by decide +kernel
theorem dX1_sweep_12 : decode prog_3_method_10_code 12 = .ok (.aload_n 0, 1) := by decide +kernel
theorem dX1_sweep_13 : decode prog_3_method_10_code 13 = .ok (.getfield 89, 3) := by decide +kernel
theorem dX1_sweep_16 : decode prog_3_method_10_code 16 = .ok (.if_icmp .ge 101, 3) := by decide +kernel
theorem dX1_sweep_19 : decode prog_3_method_10_code 19 = .ok (.aload_n 0, 1) := by decide +kernel
theorem dX1_sweep_20 : decode prog_3_method_10_code 20 = .ok (.getfield 18, 3) := by decide +kernel
theorem dX1_sweep_23 : decode prog_3_method_10_code 23 = .ok (.iload 6, 2) := by decide +kernel
theorem dX1_sweep_25 : decode prog_3_method_10_code 25 = .ok (.laload, 1) := by decide +kernel
theorem dX1_sweep_26 : decode prog_3_method_10_code 26 = .ok (.lload 4, 2) := by decide +kernel
theorem dX1_sweep_28 : decode prog_3_method_10_code 28 = .ok (.lload_n 2, 1) := by decide +kernel
theorem dX1_sweep_29 : decode prog_3_method_10_code 29 = .ok (.aload_n 0, 1) := by decide +kernel
theorem dX1_sweep_30 : decode prog_3_method_10_code 30 = .ok (.getfield 22, 3) := by decide +kernel
theorem dX1_sweep_33 : decode prog_3_method_10_code 33 = .ok (.iload 6, 2) := by decide +kernel
theorem dX1_sweep_35 : decode prog_3_method_10_code 35 = .ok (.laload, 1) := by decide +kernel
theorem dX1_sweep_36 : decode prog_3_method_10_code 36 = .ok (.invokestatic 125, 3) := by decide +kernel
theorem dX1_sweep_39 : decode prog_3_method_10_code 39 = .ok (.ifCond .le 27, 3) := by decide +kernel
theorem dX1_sweep_42 : decode prog_3_method_10_code 42 = .ok (.iload_n 1, 1) := by decide +kernel
theorem dX1_sweep_43 : decode prog_3_method_10_code 43 = .ok (.aload_n 0, 1) := by decide +kernel
theorem dX1_sweep_44 : decode prog_3_method_10_code 44 = .ok (.invokevirtual 129, 3) := by decide +kernel
theorem dX1_sweep_47 : decode prog_3_method_10_code 47 = .ok (.ior, 1) := by decide +kernel
theorem dX1_sweep_48 : decode prog_3_method_10_code 48 = .ok (.istore_n 1, 1) := by decide +kernel
theorem dX1_sweep_49 : decode prog_3_method_10_code 49 = .ok (.aload_n 0, 1) := by decide +kernel
theorem dX1_sweep_50 : decode prog_3_method_10_code 50 = .ok (.getfield 18, 3) := by decide +kernel
theorem dX1_sweep_53 : decode prog_3_method_10_code 53 = .ok (.iload 6, 2) := by decide +kernel
theorem dX1_sweep_55 : decode prog_3_method_10_code 55 = .ok (.laload, 1) := by decide +kernel
theorem dX1_sweep_56 : decode prog_3_method_10_code 56 = .ok (.lstore_n 2, 1) := by decide +kernel
theorem dX1_sweep_57 : decode prog_3_method_10_code 57 = .ok (.aload_n 0, 1) := by decide +kernel
theorem dX1_sweep_58 : decode prog_3_method_10_code 58 = .ok (.getfield 22, 3) := by decide +kernel
theorem dX1_sweep_61 : decode prog_3_method_10_code 61 = .ok (.iload 6, 2) := by decide +kernel
theorem dX1_sweep_63 : decode prog_3_method_10_code 63 = .ok (.laload, 1) := by decide +kernel
theorem dX1_sweep_64 : decode prog_3_method_10_code 64 = .ok (.lstore 4, 2) := by decide +kernel
theorem dX1_sweep_66 : decode prog_3_method_10_code 66 = .ok (.aload_n 0, 1) := by decide +kernel
theorem dX1_sweep_67 : decode prog_3_method_10_code 67 = .ok (.getfield 25, 3) := by decide +kernel
theorem dX1_sweep_70 : decode prog_3_method_10_code 70 = .ok (.iload 6, 2) := by decide +kernel
theorem dX1_sweep_72 : decode prog_3_method_10_code 72 = .ok (.iaload, 1) := by decide +kernel
theorem dX1_sweep_73 : decode prog_3_method_10_code 73 = .ok (.ifCond .ne 22, 3) := by decide +kernel
theorem dX1_sweep_76 : decode prog_3_method_10_code 76 = .ok (.aload_n 0, 1) := by decide +kernel
theorem dX1_sweep_77 : decode prog_3_method_10_code 77 = .ok (.aload_n 0, 1) := by decide +kernel
theorem dX1_sweep_78 : decode prog_3_method_10_code 78 = .ok (.getfield 92, 3) := by decide +kernel
theorem dX1_sweep_81 : decode prog_3_method_10_code 81 = .ok (.ifCond .ne 7, 3) := by decide +kernel
theorem dX1_sweep_84 : decode prog_3_method_10_code 84 = .ok (.iconst 1, 1) := by decide +kernel
theorem dX1_sweep_85 : decode prog_3_method_10_code 85 = .ok (.goto 4, 3) := by decide +kernel
theorem dX1_sweep_88 : decode prog_3_method_10_code 88 = .ok (.iconst 0, 1) := by decide +kernel
theorem dX1_sweep_89 : decode prog_3_method_10_code 89 = .ok (.putfield 92, 3) := by decide +kernel
theorem dX1_sweep_92 : decode prog_3_method_10_code 92 = .ok (.goto 19, 3) := by decide +kernel
theorem dX1_sweep_95 : decode prog_3_method_10_code 95 = .ok (.aload_n 0, 1) := by decide +kernel
theorem dX1_sweep_96 : decode prog_3_method_10_code 96 = .ok (.dup, 1) := by decide +kernel
theorem dX1_sweep_97 : decode prog_3_method_10_code 97 = .ok (.getfield 95, 3) := by decide +kernel
theorem dX1_sweep_100 : decode prog_3_method_10_code 100 = .ok (.aload_n 0, 1) := by decide +kernel
theorem dX1_sweep_101 : decode prog_3_method_10_code 101 = .ok (.getfield 25, 3) := by decide +kernel
theorem dX1_sweep_104 : decode prog_3_method_10_code 104 = .ok (.iload 6, 2) := by decide +kernel
theorem dX1_sweep_106 : decode prog_3_method_10_code 106 = .ok (.iaload, 1) := by decide +kernel
theorem dX1_sweep_107 : decode prog_3_method_10_code 107 = .ok (.iadd, 1) := by decide +kernel
theorem dX1_sweep_108 : decode prog_3_method_10_code 108 = .ok (.putfield 95, 3) := by decide +kernel
theorem dX1_sweep_111 : decode prog_3_method_10_code 111 = .ok (.iinc 6 1, 3) := by decide +kernel
theorem dX1_sweep_114 : decode prog_3_method_10_code 114 = .ok (.goto (-104), 3) := by decide +kernel
theorem dX1_sweep_117 : decode prog_3_method_10_code 117 = .ok (.iload_n 1, 1) := by decide +kernel
theorem dX1_sweep_118 : decode prog_3_method_10_code 118 = .ok (.aload_n 0, 1) := by decide +kernel
theorem dX1_sweep_119 : decode prog_3_method_10_code 119 = .ok (.invokevirtual 129, 3) := by decide +kernel
theorem dX1_sweep_122 : decode prog_3_method_10_code 122 = .ok (.ior, 1) := by decide +kernel
theorem dX1_sweep_123 : decode prog_3_method_10_code 123 = .ok (.ireturn, 1) := by decide +kernel
theorem dX1_lieOfPiece_0 : decode prog_3_method_11_code 0 = .ok (.aload_n 0, 1) := by decide +kernel
theorem dX1_lieOfPiece_1 : decode prog_3_method_11_code 1 = .ok (.getfield 95, 3) := by decide +kernel
theorem dX1_lieOfPiece_4 : decode prog_3_method_11_code 4 = .ok (.ifCond .le 5, 3) := by decide +kernel
theorem dX1_lieOfPiece_7 : decode prog_3_method_11_code 7 = .ok (.iconst 4, 1) := by decide +kernel
theorem dX1_lieOfPiece_8 : decode prog_3_method_11_code 8 = .ok (.ireturn, 1) := by decide +kernel
theorem dX1_lieOfPiece_9 : decode prog_3_method_11_code 9 = .ok (.aload_n 0, 1) := by decide +kernel
theorem dX1_lieOfPiece_10 : decode prog_3_method_11_code 10 = .ok (.getfield 92, 3) := by decide +kernel
theorem dX1_lieOfPiece_13 : decode prog_3_method_11_code 13 = .ok (.ifCond .eq 7, 3) := by decide +kernel
theorem dX1_lieOfPiece_16 : decode prog_3_method_11_code 16 = .ok (.iconst 1, 1) := by decide +kernel
theorem dX1_lieOfPiece_17 : decode prog_3_method_11_code 17 = .ok (.goto 4, 3) := by decide +kernel
theorem dX1_lieOfPiece_20 : decode prog_3_method_11_code 20 = .ok (.iconst 2, 1) := by decide +kernel
theorem dX1_lieOfPiece_21 : decode prog_3_method_11_code 21 = .ok (.ireturn, 1) := by decide +kernel
theorem dX2_init_0 : decode prog_4_method_1_code 0 = .ok (.aload_n 0, 1) := by decide +kernel
theorem dX2_init_1 : decode prog_4_method_1_code 1 = .ok (.invokespecial 3, 3) := by decide +kernel
theorem dX2_init_4 : decode prog_4_method_1_code 4 = .ok (.aload_n 0, 1) := by decide +kernel
theorem dX2_init_5 : decode prog_4_method_1_code 5 = .ok (.lconst 1, 1) := by decide +kernel
theorem dX2_init_6 : decode prog_4_method_1_code 6 = .ok (.putfield 9, 3) := by decide +kernel
theorem dX2_init_9 : decode prog_4_method_1_code 9 = .ok (.return_, 1) := by decide +kernel
theorem dX2_measure_0 : decode prog_4_method_2_code 0 = .ok (.aload_n 0, 1) := by decide +kernel
theorem dX2_measure_1 : decode prog_4_method_2_code 1 = .ok (.lconst 0, 1) := by decide +kernel
theorem dX2_measure_2 : decode prog_4_method_2_code 2 = .ok (.lconst 0, 1) := by decide +kernel
theorem dX2_measure_3 : decode prog_4_method_2_code 3 = .ok (.lconst 1, 1) := by decide +kernel
theorem dX2_measure_4 : decode prog_4_method_2_code 4 = .ok (.invokevirtual 15, 3) := by decide +kernel
theorem dX2_measure_7 : decode prog_4_method_2_code 7 = .ok (.aload_n 1, 1) := by decide +kernel
theorem dX2_measure_8 : decode prog_4_method_2_code 8 = .ok (.getfield 19, 3) := by decide +kernel
theorem dX2_measure_11 : decode prog_4_method_2_code 11 = .ok (.iconst 2, 1) := by decide +kernel
theorem dX2_measure_12 : decode prog_4_method_2_code 12 = .ok (.if_icmp .ne 13, 3) := by decide +kernel
theorem dX2_measure_15 : decode prog_4_method_2_code 15 = .ok (.aload_n 1, 1) := by decide +kernel
theorem dX2_measure_16 : decode prog_4_method_2_code 16 = .ok (.iload_n 2, 1) := by decide +kernel
theorem dX2_measure_17 : decode prog_4_method_2_code 17 = .ok (.iload_n 3, 1) := by decide +kernel
theorem dX2_measure_18 : decode prog_4_method_2_code 18 = .ok (.invokestatic 25, 3) := by decide +kernel
theorem dX2_measure_21 : decode prog_4_method_2_code 21 = .ok (.ifCond .lt 4, 3) := by decide +kernel
theorem dX2_measure_24 : decode prog_4_method_2_code 24 = .ok (.return_, 1) := by decide +kernel
theorem dX2_measure_25 : decode prog_4_method_2_code 25 = .ok (.iconst 0, 1) := by decide +kernel
theorem dX2_measure_26 : decode prog_4_method_2_code 26 = .ok (.istore 4, 2) := by decide +kernel
theorem dX2_measure_28 : decode prog_4_method_2_code 28 = .ok (.iload 4, 2) := by decide +kernel
theorem dX2_measure_30 : decode prog_4_method_2_code 30 = .ok (.aload_n 1, 1) := by decide +kernel
theorem dX2_measure_31 : decode prog_4_method_2_code 31 = .ok (.getfield 31, 3) := by decide +kernel
theorem dX2_measure_34 : decode prog_4_method_2_code 34 = .ok (.if_icmp .ge 104, 3) := by decide +kernel
theorem dX2_measure_37 : decode prog_4_method_2_code 37 = .ok (.iload_n 2, 1) := by decide +kernel
theorem dX2_measure_38 : decode prog_4_method_2_code 38 = .ok (.i2l, 1) := by decide +kernel
theorem dX2_measure_39 : decode prog_4_method_2_code 39 = .ok (.aload_n 1, 1) := by decide +kernel
theorem dX2_measure_40 : decode prog_4_method_2_code 40 = .ok (.getfield 34, 3) := by decide +kernel
theorem dX2_measure_43 : decode prog_4_method_2_code 43 = .ok (.iload 4, 2) := by decide +kernel
theorem dX2_measure_45 : decode prog_4_method_2_code 45 = .ok (.iaload, 1) := by decide +kernel
theorem dX2_measure_46 : decode prog_4_method_2_code 46 = .ok (.i2l, 1) := by decide +kernel
theorem dX2_measure_47 : decode prog_4_method_2_code 47 = .ok (.lsub, 1) := by decide +kernel
theorem dX2_measure_48 : decode prog_4_method_2_code 48 = .ok (.lstore 5, 2) := by decide +kernel
theorem dX2_measure_50 : decode prog_4_method_2_code 50 = .ok (.iload_n 3, 1) := by decide +kernel
theorem dX2_measure_51 : decode prog_4_method_2_code 51 = .ok (.i2l, 1) := by decide +kernel
theorem dX2_measure_52 : decode prog_4_method_2_code 52 = .ok (.aload_n 1, 1) := by decide +kernel
theorem dX2_measure_53 : decode prog_4_method_2_code 53 = .ok (.getfield 38, 3) := by decide +kernel
theorem dX2_measure_56 : decode prog_4_method_2_code 56 = .ok (.iload 4, 2) := by decide +kernel
theorem dX2_measure_58 : decode prog_4_method_2_code 58 = .ok (.iaload, 1) := by decide +kernel
theorem dX2_measure_59 : decode prog_4_method_2_code 59 = .ok (.i2l, 1) := by decide +kernel
theorem dX2_measure_60 : decode prog_4_method_2_code 60 = .ok (.lsub, 1) := by decide +kernel
theorem dX2_measure_61 : decode prog_4_method_2_code 61 = .ok (.lstore 7, 2) := by decide +kernel
theorem dX2_measure_63 : decode prog_4_method_2_code 63 = .ok (.lload 5, 2) := by decide +kernel
theorem dX2_measure_65 : decode prog_4_method_2_code 65 = .ok (.lload 5, 2) := by decide +kernel
theorem dX2_measure_67 : decode prog_4_method_2_code 67 = .ok (.lmul, 1) := by decide +kernel
theorem dX2_measure_68 : decode prog_4_method_2_code 68 = .ok (.lload 7, 2) := by decide +kernel
theorem dX2_measure_70 : decode prog_4_method_2_code 70 = .ok (.lload 7, 2) := by decide +kernel
theorem dX2_measure_72 : decode prog_4_method_2_code 72 = .ok (.lmul, 1) := by decide +kernel
theorem dX2_measure_73 : decode prog_4_method_2_code 73 = .ok (.ladd, 1) := by decide +kernel
theorem dX2_measure_74 : decode prog_4_method_2_code 74 = .ok (.lstore 9, 2) := by decide +kernel
theorem dX2_measure_76 : decode prog_4_method_2_code 76 = .ok (.iload 4, 2) := by decide +kernel
theorem dX2_measure_78 : decode prog_4_method_2_code 78 = .ok (.ifCond .eq 14, 3) := by decide +kernel
theorem dX2_measure_81 : decode prog_4_method_2_code 81 = .ok (.aload_n 0, 1) := by decide +kernel
theorem dX2_measure_82 : decode prog_4_method_2_code 82 = .ok (.lconst 0, 1) := by decide +kernel
theorem dX2_measure_83 : decode prog_4_method_2_code 83 = .ok (.lload 9, 2) := by decide +kernel
theorem dX2_measure_85 : decode prog_4_method_2_code 85 = .ok (.lconst 1, 1) := by decide +kernel
theorem dX2_measure_86 : decode prog_4_method_2_code 86 = .ok (.invokevirtual 41, 3) := by decide +kernel
theorem dX2_measure_89 : decode prog_4_method_2_code 89 = .ok (.ifCond .le 11, 3) := by decide +kernel
theorem dX2_measure_92 : decode prog_4_method_2_code 92 = .ok (.aload_n 0, 1) := by decide +kernel
theorem dX2_measure_93 : decode prog_4_method_2_code 93 = .ok (.lconst 0, 1) := by decide +kernel
theorem dX2_measure_94 : decode prog_4_method_2_code 94 = .ok (.lload 9, 2) := by decide +kernel
theorem dX2_measure_96 : decode prog_4_method_2_code 96 = .ok (.lconst 1, 1) := by decide +kernel
theorem dX2_measure_97 : decode prog_4_method_2_code 97 = .ok (.invokevirtual 15, 3) := by decide +kernel
theorem dX2_measure_100 : decode prog_4_method_2_code 100 = .ok (.iload 4, 2) := by decide +kernel
theorem dX2_measure_102 : decode prog_4_method_2_code 102 = .ok (.iconst 1, 1) := by decide +kernel
theorem dX2_measure_103 : decode prog_4_method_2_code 103 = .ok (.iadd, 1) := by decide +kernel
theorem dX2_measure_104 : decode prog_4_method_2_code 104 = .ok (.aload_n 1, 1) := by decide +kernel
theorem dX2_measure_105 : decode prog_4_method_2_code 105 = .ok (.getfield 31, 3) := by decide +kernel
theorem dX2_measure_108 : decode prog_4_method_2_code 108 = .ok (.if_icmp .ge 24, 3) := by decide +kernel
theorem dX2_measure_111 : decode prog_4_method_2_code 111 = .ok (.aload_n 1, 1) := by decide +kernel
theorem dX2_measure_112 : decode prog_4_method_2_code 112 = .ok (.getfield 45, 3) := by decide +kernel
theorem dX2_measure_115 : decode prog_4_method_2_code 115 = .ok (.iload 4, 2) := by decide +kernel
theorem dX2_measure_117 : decode prog_4_method_2_code 117 = .ok (.baload, 1) := by decide +kernel
theorem dX2_measure_118 : decode prog_4_method_2_code 118 = .ok (.ifCond .ne 14, 3) := by decide +kernel
theorem dX2_measure_121 : decode prog_4_method_2_code 121 = .ok (.aload_n 0, 1) := by decide +kernel
theorem dX2_measure_122 : decode prog_4_method_2_code 122 = .ok (.aload_n 1, 1) := by decide +kernel
theorem dX2_measure_123 : decode prog_4_method_2_code 123 = .ok (.iload 4, 2) := by decide +kernel
theorem dX2_measure_125 : decode prog_4_method_2_code 125 = .ok (.lload 5, 2) := by decide +kernel
theorem dX2_measure_127 : decode prog_4_method_2_code 127 = .ok (.lload 7, 2) := by decide +kernel
theorem dX2_measure_129 : decode prog_4_method_2_code 129 = .ok (.invokevirtual 49, 3) := by decide +kernel
theorem dX2_measure_132 : decode prog_4_method_2_code 132 = .ok (.iinc 4 1, 3) := by decide +kernel
theorem dX2_measure_135 : decode prog_4_method_2_code 135 = .ok (.goto (-107), 3) := by decide +kernel
theorem dX2_measure_138 : decode prog_4_method_2_code 138 = .ok (.return_, 1) := by decide +kernel
theorem dX2_measureFoot_0 : decode prog_4_method_3_code 0 = .ok (.aload_n 1, 1) := by decide +kernel
theorem dX2_measureFoot_1 : decode prog_4_method_3_code 1 = .ok (.getfield 34, 3) := by decide +kernel
theorem dX2_measureFoot_4 : decode prog_4_method_3_code 4 = .ok (.iload_n 2, 1) := by decide +kernel
theorem dX2_measureFoot_5 : decode prog_4_method_3_code 5 = .ok (.iconst 1, 1) := by decide +kernel
theorem dX2_measureFoot_6 : decode prog_4_method_3_code 6 = .ok (.iadd, 1) := by decide +kernel
theorem dX2_measureFoot_7 : decode prog_4_method_3_code 7 = .ok (.iaload, 1) := by decide +kernel
theorem dX2_measureFoot_8 : decode prog_4_method_3_code 8 = .ok (.i2l, 1) := by decide +kernel
theorem dX2_measureFoot_9 : decode prog_4_method_3_code 9 = .ok (.aload_n 1, 1) := by decide +kernel
theorem dX2_measureFoot_10 : decode prog_4_method_3_code 10 = .ok (.getfield 34, 3) := by decide +kernel
theorem dX2_measureFoot_13 : decode prog_4_method_3_code 13 = .ok (.iload_n 2, 1) := by decide +kernel
theorem dX2_measureFoot_14 : decode prog_4_method_3_code 14 = .ok (.iaload, 1) := by decide +kernel
theorem dX2_measureFoot_15 : decode prog_4_method_3_code 15 = .ok (.i2l, 1) := by decide +kernel
theorem dX2_measureFoot_16 : decode prog_4_method_3_code 16 = .ok (.lsub, 1) := by decide +kernel
theorem dX2_measureFoot_17 : decode prog_4_method_3_code 17 = .ok (.lstore 7, 2) := by decide +kernel
theorem dX2_measureFoot_19 : decode prog_4_method_3_code 19 = .ok (.aload_n 1, 1) := by decide +kernel
theorem dX2_measureFoot_20 : decode prog_4_method_3_code 20 = .ok (.getfield 38, 3) := by decide +kernel
theorem dX2_measureFoot_23 : decode prog_4_method_3_code 23 = .ok (.iload_n 2, 1) := by decide +kernel
theorem dX2_measureFoot_24 : decode prog_4_method_3_code 24 = .ok (.iconst 1, 1) := by decide +kernel
theorem dX2_measureFoot_25 : decode prog_4_method_3_code 25 = .ok (.iadd, 1) := by decide +kernel
theorem dX2_measureFoot_26 : decode prog_4_method_3_code 26 = .ok (.iaload, 1) := by decide +kernel
theorem dX2_measureFoot_27 : decode prog_4_method_3_code 27 = .ok (.i2l, 1) := by decide +kernel
theorem dX2_measureFoot_28 : decode prog_4_method_3_code 28 = .ok (.aload_n 1, 1) := by decide +kernel
theorem dX2_measureFoot_29 : decode prog_4_method_3_code 29 = .ok (.getfield 38, 3) := by decide +kernel
theorem dX2_measureFoot_32 : decode prog_4_method_3_code 32 = .ok (.iload_n 2, 1) := by decide +kernel
theorem dX2_measureFoot_33 : decode prog_4_method_3_code 33 = .ok (.iaload, 1) := by decide +kernel
theorem dX2_measureFoot_34 : decode prog_4_method_3_code 34 = .ok (.i2l, 1) := by decide +kernel
theorem dX2_measureFoot_35 : decode prog_4_method_3_code 35 = .ok (.lsub, 1) := by decide +kernel
theorem dX2_measureFoot_36 : decode prog_4_method_3_code 36 = .ok (.lstore 9, 2) := by decide +kernel
theorem dX2_measureFoot_38 : decode prog_4_method_3_code 38 = .ok (.lload 7, 2) := by decide +kernel
theorem dX2_measureFoot_40 : decode prog_4_method_3_code 40 = .ok (.lload 7, 2) := by decide +kernel
theorem dX2_measureFoot_42 : decode prog_4_method_3_code 42 = .ok (.lmul, 1) := by decide +kernel
theorem dX2_measureFoot_43 : decode prog_4_method_3_code 43 = .ok (.lload 9, 2) := by decide +kernel
theorem dX2_measureFoot_45 : decode prog_4_method_3_code 45 = .ok (.lload 9, 2) := by decide +kernel
theorem dX2_measureFoot_47 : decode prog_4_method_3_code 47 = .ok (.lmul, 1) := by decide +kernel
theorem dX2_measureFoot_48 : decode prog_4_method_3_code 48 = .ok (.ladd, 1) := by decide +kernel
theorem dX2_measureFoot_49 : decode prog_4_method_3_code 49 = .ok (.lstore 11, 2) := by decide +kernel
theorem dX2_measureFoot_51 : decode prog_4_method_3_code 51 = .ok (.lload_n 3, 1) := by decide +kernel
theorem dX2_measureFoot_52 : decode prog_4_method_3_code 52 = .ok (.lload 7, 2) := by decide +kernel
theorem dX2_measureFoot_54 : decode prog_4_method_3_code 54 = .ok (.lmul, 1) := by decide +kernel
theorem dX2_measureFoot_55 : decode prog_4_method_3_code 55 = .ok (.lload 5, 2) := by decide +kernel
theorem dX2_measureFoot_57 : decode prog_4_method_3_code 57 = .ok (.lload 9, 2) := by decide +kernel
theorem dX2_measureFoot_59 : decode prog_4_method_3_code 59 = .ok (.lmul, 1) := by decide +kernel
theorem dX2_measureFoot_60 : decode prog_4_method_3_code 60 = .ok (.ladd, 1) := by decide +kernel
theorem dX2_measureFoot_61 : decode prog_4_method_3_code 61 = .ok (.lstore 13, 2) := by decide +kernel
theorem dX2_measureFoot_63 : decode prog_4_method_3_code 63 = .ok (.lload 13, 2) := by decide +kernel
theorem dX2_measureFoot_65 : decode prog_4_method_3_code 65 = .ok (.lconst 0, 1) := by decide +kernel
theorem dX2_measureFoot_66 : decode prog_4_method_3_code 66 = .ok (.lcmp, 1) := by decide +kernel
theorem dX2_measureFoot_67 : decode prog_4_method_3_code 67 = .ok (.ifCond .le 11, 3) := by decide +kernel
theorem dX2_measureFoot_70 : decode prog_4_method_3_code 70 = .ok (.lload 13, 2) := by decide +kernel
theorem dX2_measureFoot_72 : decode prog_4_method_3_code 72 = .ok (.lload 11, 2) := by decide +kernel
theorem dX2_measureFoot_74 : decode prog_4_method_3_code 74 = .ok (.lcmp, 1) := by decide +kernel
theorem dX2_measureFoot_75 : decode prog_4_method_3_code 75 = .ok (.ifCond .lt 4, 3) := by decide +kernel
theorem dX2_measureFoot_78 : decode prog_4_method_3_code 78 = .ok (.return_, 1) := by decide +kernel
theorem dX2_measureFoot_79 : decode prog_4_method_3_code 79 = .ok (.lload 7, 2) := by decide +kernel
theorem dX2_measureFoot_81 : decode prog_4_method_3_code 81 = .ok (.lload 5, 2) := by decide +kernel
theorem dX2_measureFoot_83 : decode prog_4_method_3_code 83 = .ok (.lmul, 1) := by decide +kernel
theorem dX2_measureFoot_84 : decode prog_4_method_3_code 84 = .ok (.lload 9, 2) := by decide +kernel
theorem dX2_measureFoot_86 : decode prog_4_method_3_code 86 = .ok (.lload_n 3, 1) := by decide +kernel
theorem dX2_measureFoot_87 : decode prog_4_method_3_code 87 = .ok (.lmul, 1) := by decide +kernel
theorem dX2_measureFoot_88 : decode prog_4_method_3_code 88 = .ok (.lsub, 1) := by decide +kernel
theorem dX2_measureFoot_89 : decode prog_4_method_3_code 89 = .ok (.lstore 15, 2) := by decide +kernel
theorem dX2_measureFoot_91 : decode prog_4_method_3_code 91 = .ok (.lload 15, 2) := by decide +kernel
theorem dX2_measureFoot_93 : decode prog_4_method_3_code 93 = .ok (.lconst 0, 1) := by decide +kernel
theorem dX2_measureFoot_94 : decode prog_4_method_3_code 94 = .ok (.lcmp, 1) := by decide +kernel
theorem dX2_measureFoot_95 : decode prog_4_method_3_code 95 = .ok (.ifCond .ge 8, 3) := by decide +kernel
theorem dX2_measureFoot_98 : decode prog_4_method_3_code 98 = .ok (.lload 15, 2) := by decide +kernel
theorem dX2_measureFoot_100 : decode prog_4_method_3_code 100 = .ok (.lneg, 1) := by decide +kernel
theorem dX2_measureFoot_101 : decode prog_4_method_3_code 101 = .ok (.lstore 15, 2) := by decide +kernel
theorem dX2_measureFoot_103 : decode prog_4_method_3_code 103 = .ok (.lload 15, 2) := by decide +kernel
theorem dX2_measureFoot_105 : decode prog_4_method_3_code 105 = .ok (.lload 15, 2) := by decide +kernel
theorem dX2_measureFoot_107 : decode prog_4_method_3_code 107 = .ok (.invokestatic 53, 3) := by decide +kernel
theorem dX2_measureFoot_110 : decode prog_4_method_3_code 110 = .ok (.lstore 17, 2) := by decide +kernel
theorem dX2_measureFoot_112 : decode prog_4_method_3_code 112 = .ok (.aload_n 0, 1) := by decide +kernel
theorem dX2_measureFoot_113 : decode prog_4_method_3_code 113 = .ok (.lload 17, 2) := by decide +kernel
theorem dX2_measureFoot_115 : decode prog_4_method_3_code 115 = .ok (.lload 15, 2) := by decide +kernel
theorem dX2_measureFoot_117 : decode prog_4_method_3_code 117 = .ok (.lload 15, 2) := by decide +kernel
theorem dX2_measureFoot_119 : decode prog_4_method_3_code 119 = .ok (.lmul, 1) := by decide +kernel
theorem dX2_measureFoot_120 : decode prog_4_method_3_code 120 = .ok (.lload 11, 2) := by decide +kernel
theorem dX2_measureFoot_122 : decode prog_4_method_3_code 122 = .ok (.invokevirtual 41, 3) := by decide +kernel
theorem dX2_measureFoot_125 : decode prog_4_method_3_code 125 = .ok (.ifCond .le 16, 3) := by decide +kernel
theorem dX2_measureFoot_128 : decode prog_4_method_3_code 128 = .ok (.aload_n 0, 1) := by decide +kernel
theorem dX2_measureFoot_129 : decode prog_4_method_3_code 129 = .ok (.lload 17, 2) := by decide +kernel
theorem dX2_measureFoot_131 : decode prog_4_method_3_code 131 = .ok (.lload 15, 2) := by decide +kernel
theorem dX2_measureFoot_133 : decode prog_4_method_3_code 133 = .ok (.lload 15, 2) := by decide +kernel
theorem dX2_measureFoot_135 : decode prog_4_method_3_code 135 = .ok (.lmul, 1) := by decide +kernel
theorem dX2_measureFoot_136 : decode prog_4_method_3_code 136 = .ok (.lload 11, 2) := by decide +kernel
theorem dX2_measureFoot_138 : decode prog_4_method_3_code 138 = .ok (.invokevirtual 15, 3) := by decide +kernel
theorem dX2_measureFoot_141 : decode prog_4_method_3_code 141 = .ok (.return_, 1) := by decide +kernel
theorem dX2_keep_0 : decode prog_4_method_4_code 0 = .ok (.aload_n 0, 1) := by decide +kernel
theorem dX2_keep_1 : decode prog_4_method_4_code 1 = .ok (.lload_n 1, 1) := by decide +kernel
theorem dX2_keep_2 : decode prog_4_method_4_code 2 = .ok (.putfield 57, 3) := by decide +kernel
theorem dX2_keep_5 : decode prog_4_method_4_code 5 = .ok (.aload_n 0, 1) := by decide +kernel
theorem dX2_keep_6 : decode prog_4_method_4_code 6 = .ok (.lload_n 3, 1) := by decide +kernel
theorem dX2_keep_7 : decode prog_4_method_4_code 7 = .ok (.putfield 60, 3) := by decide +kernel
theorem dX2_keep_10 : decode prog_4_method_4_code 10 = .ok (.aload_n 0, 1) := by decide +kernel
theorem dX2_keep_11 : decode prog_4_method_4_code 11 = .ok (.lload 5, 2) := by decide +kernel
theorem dX2_keep_13 : decode prog_4_method_4_code 13 = .ok (.putfield 9, 3) := by decide +kernel
theorem dX2_keep_16 : decode prog_4_method_4_code 16 = .ok (.return_, 1) := by decide +kernel
theorem dX2_compareWith_0 : decode prog_4_method_5_code 0 = .ok (.aload_n 0, 1) := by decide +kernel
theorem dX2_compareWith_1 : decode prog_4_method_5_code 1 = .ok (.aload_n 1, 1) := by decide +kernel
theorem dX2_compareWith_2 : decode prog_4_method_5_code 2 = .ok (.getfield 57, 3) := by decide +kernel
theorem dX2_compareWith_5 : decode prog_4_method_5_code 5 = .ok (.aload_n 1, 1) := by decide +kernel
theorem dX2_compareWith_6 : decode prog_4_method_5_code 6 = .ok (.getfield 60, 3) := by decide +kernel
theorem dX2_compareWith_9 : decode prog_4_method_5_code 9 = .ok (.aload_n 1, 1) := by decide +kernel
theorem dX2_compareWith_10 : decode prog_4_method_5_code 10 = .ok (.getfield 9, 3) := by decide +kernel
theorem dX2_compareWith_13 : decode prog_4_method_5_code 13 = .ok (.invokevirtual 41, 3) := by decide +kernel
theorem dX2_compareWith_16 : decode prog_4_method_5_code 16 = .ok (.ireturn, 1) := by decide +kernel
theorem dX2_compareParts_0 : decode prog_4_method_6_code 0 = .ok (.aload_n 0, 1) := by decide +kernel
theorem dX2_compareParts_1 : decode prog_4_method_6_code 1 = .ok (.getfield 60, 3) := by decide +kernel
theorem dX2_compareParts_4 : decode prog_4_method_6_code 4 = .ok (.lload 5, 2) := by decide +kernel
theorem dX2_compareParts_6 : decode prog_4_method_6_code 6 = .ok (.invokestatic 53, 3) := by decide +kernel
theorem dX2_compareParts_9 : decode prog_4_method_6_code 9 = .ok (.lstore 7, 2) := by decide +kernel
theorem dX2_compareParts_11 : decode prog_4_method_6_code 11 = .ok (.aload_n 0, 1) := by decide +kernel
theorem dX2_compareParts_12 : decode prog_4_method_6_code 12 = .ok (.getfield 57, 3) := by decide +kernel
theorem dX2_compareParts_15 : decode prog_4_method_6_code 15 = .ok (.lload 5, 2) := by decide +kernel
theorem dX2_compareParts_17 : decode prog_4_method_6_code 17 = .ok (.lmul, 1) := by decide +kernel
theorem dX2_compareParts_18 : decode prog_4_method_6_code 18 = .ok (.lload 7, 2) := by decide +kernel
theorem dX2_compareParts_20 : decode prog_4_method_6_code 20 = .ok (.ladd, 1) := by decide +kernel
theorem dX2_compareParts_21 : decode prog_4_method_6_code 21 = .ok (.lstore 9, 2) := by decide +kernel
theorem dX2_compareParts_23 : decode prog_4_method_6_code 23 = .ok (.aload_n 0, 1) := by decide +kernel
theorem dX2_compareParts_24 : decode prog_4_method_6_code 24 = .ok (.getfield 57, 3) := by decide +kernel
theorem dX2_compareParts_27 : decode prog_4_method_6_code 27 = .ok (.lload 5, 2) := by decide +kernel
theorem dX2_compareParts_29 : decode prog_4_method_6_code 29 = .ok (.invokestatic 53, 3) := by decide +kernel
theorem dX2_compareParts_32 : decode prog_4_method_6_code 32 = .ok (.lload 9, 2) := by decide +kernel
theorem dX2_compareParts_34 : decode prog_4_method_6_code 34 = .ok (.lload 7, 2) := by decide +kernel
theorem dX2_compareParts_36 : decode prog_4_method_6_code 36 = .ok (.invokestatic 63, 3) := by decide +kernel
theorem dX2_compareParts_39 : decode prog_4_method_6_code 39 = .ok (.ifCond .ge 7, 3) := by decide +kernel
theorem dX2_compareParts_42 : decode prog_4_method_6_code 42 = .ok (.iconst 1, 1) := by decide +kernel
theorem dX2_compareParts_43 : decode prog_4_method_6_code 43 = .ok (.goto 4, 3) := by decide +kernel
theorem dX2_compareParts_46 : decode prog_4_method_6_code 46 = .ok (.iconst 0, 1) := by decide +kernel
theorem dX2_compareParts_47 : decode prog_4_method_6_code 47 = .ok (.i2l, 1) := by decide +kernel
theorem dX2_compareParts_48 : decode prog_4_method_6_code 48 = .ok (.ladd, 1) := by decide +kernel
theorem dX2_compareParts_49 : decode prog_4_method_6_code 49 = .ok (.lstore 11, 2) := by decide +kernel
theorem dX2_compareParts_51 : decode prog_4_method_6_code 51 = .ok (.lload_n 3, 1) := by decide +kernel
theorem dX2_compareParts_52 : decode prog_4_method_6_code 52 = .ok (.aload_n 0, 1) := by decide +kernel
theorem dX2_compareParts_53 : decode prog_4_method_6_code 53 = .ok (.getfield 9, 3) := by decide +kernel
theorem dX2_compareParts_56 : decode prog_4_method_6_code 56 = .ok (.invokestatic 53, 3) := by decide +kernel
theorem dX2_compareParts_59 : decode prog_4_method_6_code 59 = .ok (.lstore 13, 2) := by decide +kernel
theorem dX2_compareParts_61 : decode prog_4_method_6_code 61 = .ok (.lload_n 1, 1) := by decide +kernel
theorem dX2_compareParts_62 : decode prog_4_method_6_code 62 = .ok (.aload_n 0, 1) := by decide +kernel
theorem dX2_compareParts_63 : decode prog_4_method_6_code 63 = .ok (.getfield 9, 3) := by decide +kernel
theorem dX2_compareParts_66 : decode prog_4_method_6_code 66 = .ok (.lmul, 1) := by decide +kernel
theorem dX2_compareParts_67 : decode prog_4_method_6_code 67 = .ok (.lload 13, 2) := by decide +kernel
theorem dX2_compareParts_69 : decode prog_4_method_6_code 69 = .ok (.ladd, 1) := by decide +kernel
theorem dX2_compareParts_70 : decode prog_4_method_6_code 70 = .ok (.lstore 15, 2) := by decide +kernel
theorem dX2_compareParts_72 : decode prog_4_method_6_code 72 = .ok (.lload_n 1, 1) := by decide +kernel
theorem dX2_compareParts_73 : decode prog_4_method_6_code 73 = .ok (.aload_n 0, 1) := by decide +kernel
theorem dX2_compareParts_74 : decode prog_4_method_6_code 74 = .ok (.getfield 9, 3) := by decide +kernel
theorem dX2_compareParts_77 : decode prog_4_method_6_code 77 = .ok (.invokestatic 53, 3) := by decide +kernel
theorem dX2_compareParts_80 : decode prog_4_method_6_code 80 = .ok (.lload 15, 2) := by decide +kernel
theorem dX2_compareParts_82 : decode prog_4_method_6_code 82 = .ok (.lload 13, 2) := by decide +kernel
theorem dX2_compareParts_84 : decode prog_4_method_6_code 84 = .ok (.invokestatic 63, 3) := by decide +kernel
theorem dX2_compareParts_87 : decode prog_4_method_6_code 87 = .ok (.ifCond .ge 7, 3) := by decide +kernel
theorem dX2_compareParts_90 : decode prog_4_method_6_code 90 = .ok (.iconst 1, 1) := by decide +kernel
theorem dX2_compareParts_91 : decode prog_4_method_6_code 91 = .ok (.goto 4, 3) := by decide +kernel
theorem dX2_compareParts_94 : decode prog_4_method_6_code 94 = .ok (.iconst 0, 1) := by decide +kernel
theorem dX2_compareParts_95 : decode prog_4_method_6_code 95 = .ok (.i2l, 1) := by decide +kernel
theorem dX2_compareParts_96 : decode prog_4_method_6_code 96 = .ok (.ladd, 1) := by decide +kernel
theorem dX2_compareParts_97 : decode prog_4_method_6_code 97 = .ok (.lstore 17, 2) := by decide +kernel
theorem dX2_compareParts_99 : decode prog_4_method_6_code 99 = .ok (.lload 11, 2) := by decide +kernel
theorem dX2_compareParts_101 : decode prog_4_method_6_code 101 = .ok (.lload 17, 2) := by decide +kernel
theorem dX2_compareParts_103 : decode prog_4_method_6_code 103 = .ok (.invokestatic 63, 3) := by decide +kernel
theorem dX2_compareParts_106 : decode prog_4_method_6_code 106 = .ok (.istore 19, 2) := by decide +kernel
theorem dX2_compareParts_108 : decode prog_4_method_6_code 108 = .ok (.iload 19, 2) := by decide +kernel
theorem dX2_compareParts_110 : decode prog_4_method_6_code 110 = .ok (.ifCond .ne 12, 3) := by decide +kernel
theorem dX2_compareParts_113 : decode prog_4_method_6_code 113 = .ok (.lload 9, 2) := by decide +kernel
theorem dX2_compareParts_115 : decode prog_4_method_6_code 115 = .ok (.lload 15, 2) := by decide +kernel
theorem dX2_compareParts_117 : decode prog_4_method_6_code 117 = .ok (.invokestatic 63, 3) := by decide +kernel
theorem dX2_compareParts_120 : decode prog_4_method_6_code 120 = .ok (.istore 19, 2) := by decide +kernel
theorem dX2_compareParts_122 : decode prog_4_method_6_code 122 = .ok (.iload 19, 2) := by decide +kernel
theorem dX2_compareParts_124 : decode prog_4_method_6_code 124 = .ok (.ifCond .ne 21, 3) := by decide +kernel
theorem dX2_compareParts_127 : decode prog_4_method_6_code 127 = .ok (.aload_n 0, 1) := by decide +kernel
theorem dX2_compareParts_128 : decode prog_4_method_6_code 128 = .ok (.getfield 60, 3) := by decide +kernel
theorem dX2_compareParts_131 : decode prog_4_method_6_code 131 = .ok (.lload 5, 2) := by decide +kernel
theorem dX2_compareParts_133 : decode prog_4_method_6_code 133 = .ok (.lmul, 1) := by decide +kernel
theorem dX2_compareParts_134 : decode prog_4_method_6_code 134 = .ok (.lload_n 3, 1) := by decide +kernel
theorem dX2_compareParts_135 : decode prog_4_method_6_code 135 = .ok (.aload_n 0, 1) := by decide +kernel
theorem dX2_compareParts_136 : decode prog_4_method_6_code 136 = .ok (.getfield 9, 3) := by decide +kernel
theorem dX2_compareParts_139 : decode prog_4_method_6_code 139 = .ok (.lmul, 1) := by decide +kernel
theorem dX2_compareParts_140 : decode prog_4_method_6_code 140 = .ok (.invokestatic 63, 3) := by decide +kernel
theorem dX2_compareParts_143 : decode prog_4_method_6_code 143 = .ok (.istore 19, 2) := by decide +kernel
theorem dX2_compareParts_145 : decode prog_4_method_6_code 145 = .ok (.iload 19, 2) := by decide +kernel
theorem dX2_compareParts_147 : decode prog_4_method_6_code 147 = .ok (.ireturn, 1) := by decide +kernel
theorem dX3_init_0 : decode prog_5_method_1_code 0 = .ok (.aload_n 0, 1) := by decide +kernel
theorem dX3_init_1 : decode prog_5_method_1_code 1 = .ok (.invokespecial 3, 3) := by decide +kernel
theorem dX3_init_4 : decode prog_5_method_1_code 4 = .ok (.aload_n 0, 1) := by decide +kernel
theorem dX3_init_5 : decode prog_5_method_1_code 5 = .ok (.new 9, 3) := by decide +kernel
theorem dX3_init_8 : decode prog_5_method_1_code 8 = .ok (.dup, 1) := by decide +kernel
theorem dX3_init_9 : decode prog_5_method_1_code 9 = .ok (.invokespecial 11, 3) := by decide +kernel
theorem dX3_init_12 : decode prog_5_method_1_code 12 = .ok (.putfield 12, 3) := by decide +kernel
theorem dX3_init_15 : decode prog_5_method_1_code 15 = .ok (.aload_n 0, 1) := by decide +kernel
theorem dX3_init_16 : decode prog_5_method_1_code 16 = .ok (.new 9, 3) := by decide +kernel
theorem dX3_init_19 : decode prog_5_method_1_code 19 = .ok (.dup, 1) := by decide +kernel
theorem dX3_init_20 : decode prog_5_method_1_code 20 = .ok (.invokespecial 11, 3) := by decide +kernel
theorem dX3_init_23 : decode prog_5_method_1_code 23 = .ok (.putfield 18, 3) := by decide +kernel
theorem dX3_init_26 : decode prog_5_method_1_code 26 = .ok (.aload_n 0, 1) := by decide +kernel
theorem dX3_init_27 : decode prog_5_method_1_code 27 = .ok (.sipush 401, 3) := by decide +kernel
theorem dX3_init_30 : decode prog_5_method_1_code 30 = .ok (.anewarray 21, 3) := by decide +kernel
theorem dX3_init_33 : decode prog_5_method_1_code 33 = .ok (.putfield 23, 3) := by decide +kernel
theorem dX3_init_36 : decode prog_5_method_1_code 36 = .ok (.aload_n 0, 1) := by decide +kernel
theorem dX3_init_37 : decode prog_5_method_1_code 37 = .ok (.iconst (-1), 1) := by decide +kernel
theorem dX3_init_38 : decode prog_5_method_1_code 38 = .ok (.putfield 27, 3) := by decide +kernel
theorem dX3_init_41 : decode prog_5_method_1_code 41 = .ok (.return_, 1) := by decide +kernel
theorem dX3_freshShape_0 : decode prog_5_method_2_code 0 = .ok (.iconst 0, 1) := by decide +kernel
theorem dX3_freshShape_1 : decode prog_5_method_2_code 1 = .ok (.istore_n 1, 1) := by decide +kernel
theorem dX3_freshShape_2 : decode prog_5_method_2_code 2 = .ok (.iload_n 1, 1) := by decide +kernel
theorem dX3_freshShape_3 : decode prog_5_method_2_code 3 = .ok (.aload_n 0, 1) := by decide +kernel
theorem dX3_freshShape_4 : decode prog_5_method_2_code 4 = .ok (.getfield 31, 3) := by decide +kernel
theorem dX3_freshShape_7 : decode prog_5_method_2_code 7 = .ok (.if_icmp .ge 61, 3) := by decide +kernel
theorem dX3_freshShape_10 : decode prog_5_method_2_code 10 = .ok (.aload_n 0, 1) := by decide +kernel
theorem dX3_freshShape_11 : decode prog_5_method_2_code 11 = .ok (.aload_n 0, 1) := by decide +kernel
theorem dX3_freshShape_12 : decode prog_5_method_2_code 12 = .ok (.getfield 34, 3) := by decide +kernel
theorem dX3_freshShape_15 : decode prog_5_method_2_code 15 = .ok (.iconst 1, 1) := by decide +kernel
theorem dX3_freshShape_16 : decode prog_5_method_2_code 16 = .ok (.iadd, 1) := by decide +kernel
theorem dX3_freshShape_17 : decode prog_5_method_2_code 17 = .ok (.aload_n 0, 1) := by decide +kernel
theorem dX3_freshShape_18 : decode prog_5_method_2_code 18 = .ok (.getfield 31, 3) := by decide +kernel
theorem dX3_freshShape_21 : decode prog_5_method_2_code 21 = .ok (.if_icmp .ge 12, 3) := by decide +kernel
theorem dX3_freshShape_24 : decode prog_5_method_2_code 24 = .ok (.aload_n 0, 1) := by decide +kernel
theorem dX3_freshShape_25 : decode prog_5_method_2_code 25 = .ok (.getfield 34, 3) := by decide +kernel
theorem dX3_freshShape_28 : decode prog_5_method_2_code 28 = .ok (.iconst 1, 1) := by decide +kernel
theorem dX3_freshShape_29 : decode prog_5_method_2_code 29 = .ok (.iadd, 1) := by decide +kernel
theorem dX3_freshShape_30 : decode prog_5_method_2_code 30 = .ok (.goto 4, 3) := by decide +kernel
theorem dX3_freshShape_33 : decode prog_5_method_2_code 33 = .ok (.iconst 0, 1) := by decide +kernel
theorem dX3_freshShape_34 : decode prog_5_method_2_code 34 = .ok (.putfield 34, 3) := by decide +kernel
theorem dX3_freshShape_37 : decode prog_5_method_2_code 37 = .ok (.aload_n 0, 1) := by decide +kernel
theorem dX3_freshShape_38 : decode prog_5_method_2_code 38 = .ok (.getfield 23, 3) := by decide +kernel
theorem dX3_freshShape_41 : decode prog_5_method_2_code 41 = .ok (.aload_n 0, 1) := by decide +kernel
theorem dX3_freshShape_42 : decode prog_5_method_2_code 42 = .ok (.getfield 34, 3) := by decide +kernel
theorem dX3_freshShape_45 : decode prog_5_method_2_code 45 = .ok (.aaload, 1) := by decide +kernel
theorem dX3_freshShape_46 : decode prog_5_method_2_code 46 = .ok (.getfield 37, 3) := by decide +kernel
theorem dX3_freshShape_49 : decode prog_5_method_2_code 49 = .ok (.ifCond .ne 13, 3) := by decide +kernel
theorem dX3_freshShape_52 : decode prog_5_method_2_code 52 = .ok (.aload_n 0, 1) := by decide +kernel
theorem dX3_freshShape_53 : decode prog_5_method_2_code 53 = .ok (.getfield 23, 3) := by decide +kernel
theorem dX3_freshShape_56 : decode prog_5_method_2_code 56 = .ok (.aload_n 0, 1) := by decide +kernel
theorem dX3_freshShape_57 : decode prog_5_method_2_code 57 = .ok (.getfield 34, 3) := by decide +kernel
theorem dX3_freshShape_60 : decode prog_5_method_2_code 60 = .ok (.aaload, 1) := by decide +kernel
theorem dX3_freshShape_61 : decode prog_5_method_2_code 61 = .ok (.areturn, 1) := by decide +kernel
theorem dX3_freshShape_62 : decode prog_5_method_2_code 62 = .ok (.iinc 1 1, 3) := by decide +kernel
theorem dX3_freshShape_65 : decode prog_5_method_2_code 65 = .ok (.goto (-63), 3) := by decide +kernel
theorem dX3_freshShape_68 : decode prog_5_method_2_code 68 = .ok (.new 21, 3) := by decide +kernel
theorem dX3_freshShape_71 : decode prog_5_method_2_code 71 = .ok (.dup, 1) := by decide +kernel
theorem dX3_freshShape_72 : decode prog_5_method_2_code 72 = .ok (.invokespecial 40, 3) := by decide +kernel
theorem dX3_freshShape_75 : decode prog_5_method_2_code 75 = .ok (.astore_n 1, 1) := by decide +kernel
theorem dX3_freshShape_76 : decode prog_5_method_2_code 76 = .ok (.aload_n 0, 1) := by decide +kernel
theorem dX3_freshShape_77 : decode prog_5_method_2_code 77 = .ok (.getfield 31, 3) := by decide +kernel
theorem dX3_freshShape_80 : decode prog_5_method_2_code 80 = .ok (.sipush 401, 3) := by decide +kernel
theorem dX3_freshShape_83 : decode prog_5_method_2_code 83 = .ok (.if_icmp .ge 23, 3) := by decide +kernel
theorem dX3_freshShape_86 : decode prog_5_method_2_code 86 = .ok (.aload_n 0, 1) := by decide +kernel
theorem dX3_freshShape_87 : decode prog_5_method_2_code 87 = .ok (.getfield 23, 3) := by decide +kernel
theorem dX3_freshShape_90 : decode prog_5_method_2_code 90 = .ok (.aload_n 0, 1) := by decide +kernel
theorem dX3_freshShape_91 : decode prog_5_method_2_code 91 = .ok (.getfield 31, 3) := by decide +kernel
theorem dX3_freshShape_94 : decode prog_5_method_2_code 94 = .ok (.aload_n 1, 1) := by decide +kernel
theorem dX3_freshShape_95 : decode prog_5_method_2_code 95 = .ok (.aastore, 1) := by decide +kernel
theorem dX3_freshShape_96 : decode prog_5_method_2_code 96 = .ok (.aload_n 0, 1) := by decide +kernel
theorem dX3_freshShape_97 : decode prog_5_method_2_code 97 = .ok (.dup, 1) := by decide +kernel
theorem dX3_freshShape_98 : decode prog_5_method_2_code 98 = .ok (.getfield 31, 3) := by decide +kernel
theorem dX3_freshShape_101 : decode prog_5_method_2_code 101 = .ok (.iconst 1, 1) := by decide +kernel
theorem dX3_freshShape_102 : decode prog_5_method_2_code 102 = .ok (.iadd, 1) := by decide +kernel
theorem dX3_freshShape_103 : decode prog_5_method_2_code 103 = .ok (.putfield 31, 3) := by decide +kernel
theorem dX3_freshShape_106 : decode prog_5_method_2_code 106 = .ok (.aload_n 1, 1) := by decide +kernel
theorem dX3_freshShape_107 : decode prog_5_method_2_code 107 = .ok (.areturn, 1) := by decide +kernel
theorem dX3_hasRoom_0 : decode prog_5_method_3_code 0 = .ok (.aload_n 0, 1) := by decide +kernel
theorem dX3_hasRoom_1 : decode prog_5_method_3_code 1 = .ok (.getfield 41, 3) := by decide +kernel
theorem dX3_hasRoom_4 : decode prog_5_method_3_code 4 = .ok (.ifCond .eq 15, 3) := by decide +kernel
theorem dX3_hasRoom_7 : decode prog_5_method_3_code 7 = .ok (.aload_n 0, 1) := by decide +kernel
theorem dX3_hasRoom_8 : decode prog_5_method_3_code 8 = .ok (.getfield 45, 3) := by decide +kernel
theorem dX3_hasRoom_11 : decode prog_5_method_3_code 11 = .ok (.iload_n 1, 1) := by decide +kernel
theorem dX3_hasRoom_12 : decode prog_5_method_3_code 12 = .ok (.iadd, 1) := by decide +kernel
theorem dX3_hasRoom_13 : decode prog_5_method_3_code 13 = .ok (.sipush 14112, 3) := by decide +kernel
theorem dX3_hasRoom_16 : decode prog_5_method_3_code 16 = .ok (.if_icmp .gt 7, 3) := by decide +kernel
theorem dX3_hasRoom_19 : decode prog_5_method_3_code 19 = .ok (.iconst 1, 1) := by decide +kernel
theorem dX3_hasRoom_20 : decode prog_5_method_3_code 20 = .ok (.goto 4, 3) := by decide +kernel
theorem dX3_hasRoom_23 : decode prog_5_method_3_code 23 = .ok (.iconst 0, 1) := by decide +kernel
theorem dX3_hasRoom_24 : decode prog_5_method_3_code 24 = .ok (.ireturn, 1) := by decide +kernel
theorem dX3_settle_0 : decode prog_5_method_4_code 0 = .ok (.aload_n 0, 1) := by decide +kernel
theorem dX3_settle_1 : decode prog_5_method_4_code 1 = .ok (.getfield 41, 3) := by decide +kernel
theorem dX3_settle_4 : decode prog_5_method_4_code 4 = .ok (.ifCond .eq 15, 3) := by decide +kernel
theorem dX3_settle_7 : decode prog_5_method_4_code 7 = .ok (.aload_n 0, 1) := by decide +kernel
theorem dX3_settle_8 : decode prog_5_method_4_code 8 = .ok (.dup, 1) := by decide +kernel
theorem dX3_settle_9 : decode prog_5_method_4_code 9 = .ok (.getfield 45, 3) := by decide +kernel
theorem dX3_settle_12 : decode prog_5_method_4_code 12 = .ok (.iload_n 1, 1) := by decide +kernel
theorem dX3_settle_13 : decode prog_5_method_4_code 13 = .ok (.iadd, 1) := by decide +kernel
theorem dX3_settle_14 : decode prog_5_method_4_code 14 = .ok (.putfield 45, 3) := by decide +kernel
theorem dX3_settle_17 : decode prog_5_method_4_code 17 = .ok (.iconst 0, 1) := by decide +kernel
theorem dX3_settle_18 : decode prog_5_method_4_code 18 = .ok (.ireturn, 1) := by decide +kernel
theorem dX3_settle_19 : decode prog_5_method_4_code 19 = .ok (.aload_n 0, 1) := by decide +kernel
theorem dX3_settle_20 : decode prog_5_method_4_code 20 = .ok (.iload_n 1, 1) := by decide +kernel
theorem dX3_settle_21 : decode prog_5_method_4_code 21 = .ok (.invokevirtual 48, 3) := by decide +kernel
theorem dX3_settle_24 : decode prog_5_method_4_code 24 = .ok (.ireturn, 1) := by decide +kernel
theorem dX3_turn_0 : decode prog_5_method_5_code 0 = .ok (.iload_n 1, 1) := by decide +kernel
theorem dX3_turn_1 : decode prog_5_method_5_code 1 = .ok (.tableswitch 67 4 8 #[35, 40, 45, 67, 50], 35) := by decide +kernel
theorem dX3_turn_36 : decode prog_5_method_5_code 36 = .ok (.aload_n 0, 1) := by decide +kernel
theorem dX3_turn_37 : decode prog_5_method_5_code 37 = .ok (.invokevirtual 52, 3) := by decide +kernel
theorem dX3_turn_40 : decode prog_5_method_5_code 40 = .ok (.ireturn, 1) := by decide +kernel
theorem dX3_turn_41 : decode prog_5_method_5_code 41 = .ok (.aload_n 0, 1) := by decide +kernel
theorem dX3_turn_42 : decode prog_5_method_5_code 42 = .ok (.invokevirtual 56, 3) := by decide +kernel
theorem dX3_turn_45 : decode prog_5_method_5_code 45 = .ok (.ireturn, 1) := by decide +kernel
theorem dX3_turn_46 : decode prog_5_method_5_code 46 = .ok (.aload_n 0, 1) := by decide +kernel
theorem dX3_turn_47 : decode prog_5_method_5_code 47 = .ok (.invokevirtual 59, 3) := by decide +kernel
theorem dX3_turn_50 : decode prog_5_method_5_code 50 = .ok (.ireturn, 1) := by decide +kernel
theorem dX3_turn_51 : decode prog_5_method_5_code 51 = .ok (.aload_n 0, 1) := by decide +kernel
theorem dX3_turn_52 : decode prog_5_method_5_code 52 = .ok (.getfield 41, 3) := by decide +kernel
theorem dX3_turn_55 : decode prog_5_method_5_code 55 = .ok (.ifCond .eq 8, 3) := by decide +kernel
theorem dX3_turn_58 : decode prog_5_method_5_code 58 = .ok (.bipush 6, 2) := by decide +kernel
theorem dX3_turn_60 : decode prog_5_method_5_code 60 = .ok (.goto 7, 3) := by decide +kernel
theorem dX3_turn_63 : decode prog_5_method_5_code 63 = .ok (.aload_n 0, 1) := by decide +kernel
theorem dX3_turn_64 : decode prog_5_method_5_code 64 = .ok (.invokevirtual 62, 3) := by decide +kernel
theorem dX3_turn_67 : decode prog_5_method_5_code 67 = .ok (.ireturn, 1) := by decide +kernel
theorem dX3_turn_68 : decode prog_5_method_5_code 68 = .ok (.iconst 0, 1) := by decide +kernel
theorem dX3_turn_69 : decode prog_5_method_5_code 69 = .ok (.ireturn, 1) := by decide +kernel
theorem dX3_begin_0 : decode prog_5_method_6_code 0 = .ok (.aload_n 0, 1) := by decide +kernel
theorem dX3_begin_1 : decode prog_5_method_6_code 1 = .ok (.getfield 41, 3) := by decide +kernel
theorem dX3_begin_4 : decode prog_5_method_6_code 4 = .ok (.ifCond .eq 6, 3) := by decide +kernel
theorem dX3_begin_7 : decode prog_5_method_6_code 7 = .ok (.bipush 6, 2) := by decide +kernel
theorem dX3_begin_9 : decode prog_5_method_6_code 9 = .ok (.ireturn, 1) := by decide +kernel
theorem dX3_begin_10 : decode prog_5_method_6_code 10 = .ok (.aload_n 0, 1) := by decide +kernel
theorem dX3_begin_11 : decode prog_5_method_6_code 11 = .ok (.iconst 1, 1) := by decide +kernel
theorem dX3_begin_12 : decode prog_5_method_6_code 12 = .ok (.putfield 41, 3) := by decide +kernel
theorem dX3_begin_15 : decode prog_5_method_6_code 15 = .ok (.aload_n 0, 1) := by decide +kernel
theorem dX3_begin_16 : decode prog_5_method_6_code 16 = .ok (.iconst 0, 1) := by decide +kernel
theorem dX3_begin_17 : decode prog_5_method_6_code 17 = .ok (.putfield 45, 3) := by decide +kernel
theorem dX3_begin_20 : decode prog_5_method_6_code 20 = .ok (.iconst 0, 1) := by decide +kernel
theorem dX3_begin_21 : decode prog_5_method_6_code 21 = .ok (.ireturn, 1) := by decide +kernel
theorem dX3_commit_0 : decode prog_5_method_7_code 0 = .ok (.aload_n 0, 1) := by decide +kernel
theorem dX3_commit_1 : decode prog_5_method_7_code 1 = .ok (.getfield 41, 3) := by decide +kernel
theorem dX3_commit_4 : decode prog_5_method_7_code 4 = .ok (.ifCond .ne 6, 3) := by decide +kernel
theorem dX3_commit_7 : decode prog_5_method_7_code 7 = .ok (.bipush 6, 2) := by decide +kernel
theorem dX3_commit_9 : decode prog_5_method_7_code 9 = .ok (.ireturn, 1) := by decide +kernel
theorem dX3_commit_10 : decode prog_5_method_7_code 10 = .ok (.aload_n 0, 1) := by decide +kernel
theorem dX3_commit_11 : decode prog_5_method_7_code 11 = .ok (.iconst 0, 1) := by decide +kernel
theorem dX3_commit_12 : decode prog_5_method_7_code 12 = .ok (.putfield 41, 3) := by decide +kernel
theorem dX3_commit_15 : decode prog_5_method_7_code 15 = .ok (.aload_n 0, 1) := by decide +kernel
theorem dX3_commit_16 : decode prog_5_method_7_code 16 = .ok (.aload_n 0, 1) := by decide +kernel
theorem dX3_commit_17 : decode prog_5_method_7_code 17 = .ok (.getfield 45, 3) := by decide +kernel
theorem dX3_commit_20 : decode prog_5_method_7_code 20 = .ok (.invokevirtual 48, 3) := by decide +kernel
theorem dX3_commit_23 : decode prog_5_method_7_code 23 = .ok (.ireturn, 1) := by decide +kernel
theorem dX3_abort_0 : decode prog_5_method_8_code 0 = .ok (.aload_n 0, 1) := by decide +kernel
theorem dX3_abort_1 : decode prog_5_method_8_code 1 = .ok (.getfield 41, 3) := by decide +kernel
theorem dX3_abort_4 : decode prog_5_method_8_code 4 = .ok (.ifCond .ne 6, 3) := by decide +kernel
theorem dX3_abort_7 : decode prog_5_method_8_code 7 = .ok (.bipush 6, 2) := by decide +kernel
theorem dX3_abort_9 : decode prog_5_method_8_code 9 = .ok (.ireturn, 1) := by decide +kernel
theorem dX3_abort_10 : decode prog_5_method_8_code 10 = .ok (.aload_n 0, 1) := by decide +kernel
theorem dX3_abort_11 : decode prog_5_method_8_code 11 = .ok (.iconst 0, 1) := by decide +kernel
theorem dX3_abort_12 : decode prog_5_method_8_code 12 = .ok (.putfield 41, 3) := by decide +kernel
theorem dX3_abort_15 : decode prog_5_method_8_code 15 = .ok (.aload_n 0, 1) := by decide +kernel
theorem dX3_abort_16 : decode prog_5_method_8_code 16 = .ok (.getfield 12, 3) := by decide +kernel
theorem dX3_abort_19 : decode prog_5_method_8_code 19 = .ok (.aload_n 0, 1) := by decide +kernel
theorem dX3_abort_20 : decode prog_5_method_8_code 20 = .ok (.getfield 18, 3) := by decide +kernel
theorem dX3_abort_23 : decode prog_5_method_8_code 23 = .ok (.invokevirtual 65, 3) := by decide +kernel
theorem dX3_abort_26 : decode prog_5_method_8_code 26 = .ok (.iconst 0, 1) := by decide +kernel
theorem dX3_abort_27 : decode prog_5_method_8_code 27 = .ok (.ireturn, 1) := by decide +kernel
theorem dX3_writeLog_0 : decode prog_5_method_9_code 0 = .ok (.iload_n 1, 1) := by decide +kernel
theorem dX3_writeLog_1 : decode prog_5_method_9_code 1 = .ok (.sipush 224, 3) := by decide +kernel
theorem dX3_writeLog_4 : decode prog_5_method_9_code 4 = .ok (.iadd, 1) := by decide +kernel
theorem dX3_writeLog_5 : decode prog_5_method_9_code 5 = .ok (.iconst 1, 1) := by decide +kernel
theorem dX3_writeLog_6 : decode prog_5_method_9_code 6 = .ok (.isub, 1) := by decide +kernel
theorem dX3_writeLog_7 : decode prog_5_method_9_code 7 = .ok (.sipush 224, 3) := by decide +kernel
theorem dX3_writeLog_10 : decode prog_5_method_9_code 10 = .ok (.idiv, 1) := by decide +kernel
theorem dX3_writeLog_11 : decode prog_5_method_9_code 11 = .ok (.iconst 1, 1) := by decide +kernel
theorem dX3_writeLog_12 : decode prog_5_method_9_code 12 = .ok (.iadd, 1) := by decide +kernel
theorem dX3_writeLog_13 : decode prog_5_method_9_code 13 = .ok (.istore_n 2, 1) := by decide +kernel
theorem dX3_writeLog_14 : decode prog_5_method_9_code 14 = .ok (.aload_n 0, 1) := by decide +kernel
theorem dX3_writeLog_15 : decode prog_5_method_9_code 15 = .ok (.getfield 69, 3) := by decide +kernel
theorem dX3_writeLog_18 : decode prog_5_method_9_code 18 = .ok (.iload_n 2, 1) := by decide +kernel
theorem dX3_writeLog_19 : decode prog_5_method_9_code 19 = .ok (.iadd, 1) := by decide +kernel
theorem dX3_writeLog_20 : decode prog_5_method_9_code 20 = .ok (.bipush 64, 2) := by decide +kernel
theorem dX3_writeLog_22 : decode prog_5_method_9_code 22 = .ok (.if_icmp .le 8, 3) := by decide +kernel
theorem dX3_writeLog_25 : decode prog_5_method_9_code 25 = .ok (.aload_n 0, 1) := by decide +kernel
theorem dX3_writeLog_26 : decode prog_5_method_9_code 26 = .ok (.invokevirtual 62, 3) := by decide +kernel
theorem dX3_writeLog_29 : decode prog_5_method_9_code 29 = .ok (.ireturn, 1) := by decide +kernel
theorem dX3_writeLog_30 : decode prog_5_method_9_code 30 = .ok (.aload_n 0, 1) := by decide +kernel
theorem dX3_writeLog_31 : decode prog_5_method_9_code 31 = .ok (.getfield 27, 3) := by decide +kernel
theorem dX3_writeLog_34 : decode prog_5_method_9_code 34 = .ok (.ifCond .ne 28, 3) := by decide +kernel
theorem dX3_writeLog_37 : decode prog_5_method_9_code 37 = .ok (.aload_n 0, 1) := by decide +kernel
theorem dX3_writeLog_38 : decode prog_5_method_9_code 38 = .ok (.getfield 72, 3) := by decide +kernel
theorem dX3_writeLog_41 : decode prog_5_method_9_code 41 = .ok (.iload_n 2, 1) := by decide +kernel
theorem dX3_writeLog_42 : decode prog_5_method_9_code 42 = .ok (.if_icmp .gt 10, 3) := by decide +kernel
theorem dX3_writeLog_45 : decode prog_5_method_9_code 45 = .ok (.aload_n 0, 1) := by decide +kernel
theorem dX3_writeLog_46 : decode prog_5_method_9_code 46 = .ok (.iconst 1, 1) := by decide +kernel
theorem dX3_writeLog_47 : decode prog_5_method_9_code 47 = .ok (.putfield 75, 3) := by decide +kernel
theorem dX3_writeLog_50 : decode prog_5_method_9_code 50 = .ok (.iconst (-1), 1) := by decide +kernel
theorem dX3_writeLog_51 : decode prog_5_method_9_code 51 = .ok (.ireturn, 1) := by decide +kernel
theorem dX3_writeLog_52 : decode prog_5_method_9_code 52 = .ok (.aload_n 0, 1) := by decide +kernel
theorem dX3_writeLog_53 : decode prog_5_method_9_code 53 = .ok (.dup, 1) := by decide +kernel
theorem dX3_writeLog_54 : decode prog_5_method_9_code 54 = .ok (.getfield 72, 3) := by decide +kernel
theorem dX3_writeLog_57 : decode prog_5_method_9_code 57 = .ok (.iload_n 2, 1) := by decide +kernel
theorem dX3_writeLog_58 : decode prog_5_method_9_code 58 = .ok (.isub, 1) := by decide +kernel
theorem dX3_writeLog_59 : decode prog_5_method_9_code 59 = .ok (.putfield 72, 3) := by decide +kernel
theorem dX3_writeLog_62 : decode prog_5_method_9_code 62 = .ok (.aload_n 0, 1) := by decide +kernel
theorem dX3_writeLog_63 : decode prog_5_method_9_code 63 = .ok (.dup, 1) := by decide +kernel
theorem dX3_writeLog_64 : decode prog_5_method_9_code 64 = .ok (.getfield 69, 3) := by decide +kernel
theorem dX3_writeLog_67 : decode prog_5_method_9_code 67 = .ok (.iload_n 2, 1) := by decide +kernel
theorem dX3_writeLog_68 : decode prog_5_method_9_code 68 = .ok (.iadd, 1) := by decide +kernel
theorem dX3_writeLog_69 : decode prog_5_method_9_code 69 = .ok (.putfield 69, 3) := by decide +kernel
theorem dX3_writeLog_72 : decode prog_5_method_9_code 72 = .ok (.aload_n 0, 1) := by decide +kernel
theorem dX3_writeLog_73 : decode prog_5_method_9_code 73 = .ok (.getfield 18, 3) := by decide +kernel
theorem dX3_writeLog_76 : decode prog_5_method_9_code 76 = .ok (.aload_n 0, 1) := by decide +kernel
theorem dX3_writeLog_77 : decode prog_5_method_9_code 77 = .ok (.getfield 12, 3) := by decide +kernel
theorem dX3_writeLog_80 : decode prog_5_method_9_code 80 = .ok (.invokevirtual 65, 3) := by decide +kernel
theorem dX3_writeLog_83 : decode prog_5_method_9_code 83 = .ok (.iconst 0, 1) := by decide +kernel
theorem dX3_writeLog_84 : decode prog_5_method_9_code 84 = .ok (.ireturn, 1) := by decide +kernel
theorem dX3_save_0 : decode prog_5_method_10_code 0 = .ok (.aload_n 0, 1) := by decide +kernel
theorem dX3_save_1 : decode prog_5_method_10_code 1 = .ok (.getfield 27, 3) := by decide +kernel
theorem dX3_save_4 : decode prog_5_method_10_code 4 = .ok (.iconst 1, 1) := by decide +kernel
theorem dX3_save_5 : decode prog_5_method_10_code 5 = .ok (.if_icmp .ne 10, 3) := by decide +kernel
theorem dX3_save_8 : decode prog_5_method_10_code 8 = .ok (.aload_n 0, 1) := by decide +kernel
theorem dX3_save_9 : decode prog_5_method_10_code 9 = .ok (.iconst 1, 1) := by decide +kernel
theorem dX3_save_10 : decode prog_5_method_10_code 10 = .ok (.putfield 75, 3) := by decide +kernel
theorem dX3_save_13 : decode prog_5_method_10_code 13 = .ok (.iconst (-1), 1) := by decide +kernel
theorem dX3_save_14 : decode prog_5_method_10_code 14 = .ok (.ireturn, 1) := by decide +kernel
theorem dX3_save_15 : decode prog_5_method_10_code 15 = .ok (.aload_n 0, 1) := by decide +kernel
theorem dX3_save_16 : decode prog_5_method_10_code 16 = .ok (.iconst 0, 1) := by decide +kernel
theorem dX3_save_17 : decode prog_5_method_10_code 17 = .ok (.putfield 69, 3) := by decide +kernel
theorem dX3_save_20 : decode prog_5_method_10_code 20 = .ok (.aload_n 0, 1) := by decide +kernel
theorem dX3_save_21 : decode prog_5_method_10_code 21 = .ok (.dup, 1) := by decide +kernel
theorem dX3_save_22 : decode prog_5_method_10_code 22 = .ok (.getfield 78, 3) := by decide +kernel
theorem dX3_save_25 : decode prog_5_method_10_code 25 = .ok (.iconst 1, 1) := by decide +kernel
theorem dX3_save_26 : decode prog_5_method_10_code 26 = .ok (.iadd, 1) := by decide +kernel
theorem dX3_save_27 : decode prog_5_method_10_code 27 = .ok (.putfield 78, 3) := by decide +kernel
theorem dX3_save_30 : decode prog_5_method_10_code 30 = .ok (.aload_n 0, 1) := by decide +kernel
theorem dX3_save_31 : decode prog_5_method_10_code 31 = .ok (.getfield 18, 3) := by decide +kernel
theorem dX3_save_34 : decode prog_5_method_10_code 34 = .ok (.aload_n 0, 1) := by decide +kernel
theorem dX3_save_35 : decode prog_5_method_10_code 35 = .ok (.getfield 12, 3) := by decide +kernel
theorem dX3_save_38 : decode prog_5_method_10_code 38 = .ok (.invokevirtual 65, 3) := by decide +kernel
theorem dX3_save_41 : decode prog_5_method_10_code 41 = .ok (.iconst 0, 1) := by decide +kernel
theorem dX3_save_42 : decode prog_5_method_10_code 42 = .ok (.ireturn, 1) := by decide +kernel
theorem dX3_restore_0 : decode prog_5_method_11_code 0 = .ok (.aload_n 0, 1) := by decide +kernel
theorem dX3_restore_1 : decode prog_5_method_11_code 1 = .ok (.getfield 12, 3) := by decide +kernel
theorem dX3_restore_4 : decode prog_5_method_11_code 4 = .ok (.aload_n 0, 1) := by decide +kernel
theorem dX3_restore_5 : decode prog_5_method_11_code 5 = .ok (.getfield 18, 3) := by decide +kernel
theorem dX3_restore_8 : decode prog_5_method_11_code 8 = .ok (.invokevirtual 65, 3) := by decide +kernel
theorem dX3_restore_11 : decode prog_5_method_11_code 11 = .ok (.aload_n 0, 1) := by decide +kernel
theorem dX3_restore_12 : decode prog_5_method_11_code 12 = .ok (.iconst 0, 1) := by decide +kernel
theorem dX3_restore_13 : decode prog_5_method_11_code 13 = .ok (.putfield 41, 3) := by decide +kernel
theorem dX3_restore_16 : decode prog_5_method_11_code 16 = .ok (.aload_n 0, 1) := by decide +kernel
theorem dX3_restore_17 : decode prog_5_method_11_code 17 = .ok (.iconst 0, 1) := by decide +kernel
theorem dX3_restore_18 : decode prog_5_method_11_code 18 = .ok (.putfield 75, 3) := by decide +kernel
theorem dX3_restore_21 : decode prog_5_method_11_code 21 = .ok (.aload_n 0, 1) := by decide +kernel
theorem dX3_restore_22 : decode prog_5_method_11_code 22 = .ok (.iconst (-1), 1) := by decide +kernel
theorem dX3_restore_23 : decode prog_5_method_11_code 23 = .ok (.putfield 27, 3) := by decide +kernel
theorem dX3_restore_26 : decode prog_5_method_11_code 26 = .ok (.return_, 1) := by decide +kernel
theorem dX3_countFlaws_0 : decode prog_5_method_12_code 0 = .ok (.aload_n 0, 1) := by decide +kernel
theorem dX3_countFlaws_1 : decode prog_5_method_12_code 1 = .ok (.getfield 12, 3) := by decide +kernel
theorem dX3_countFlaws_4 : decode prog_5_method_12_code 4 = .ok (.invokevirtual 81, 3) := by decide +kernel
theorem dX3_countFlaws_7 : decode prog_5_method_12_code 7 = .ok (.aload_n 0, 1) := by decide +kernel
theorem dX3_countFlaws_8 : decode prog_5_method_12_code 8 = .ok (.getfield 18, 3) := by decide +kernel
theorem dX3_countFlaws_11 : decode prog_5_method_12_code 11 = .ok (.invokevirtual 81, 3) := by decide +kernel
theorem dX3_countFlaws_14 : decode prog_5_method_12_code 14 = .ok (.iadd, 1) := by decide +kernel
theorem dX3_countFlaws_15 : decode prog_5_method_12_code 15 = .ok (.istore_n 1, 1) := by decide +kernel
theorem dX3_countFlaws_16 : decode prog_5_method_12_code 16 = .ok (.aload_n 0, 1) := by decide +kernel
theorem dX3_countFlaws_17 : decode prog_5_method_12_code 17 = .ok (.getfield 69, 3) := by decide +kernel
theorem dX3_countFlaws_20 : decode prog_5_method_12_code 20 = .ok (.ifCond .lt 29, 3) := by decide +kernel
theorem dX3_countFlaws_23 : decode prog_5_method_12_code 23 = .ok (.aload_n 0, 1) := by decide +kernel
theorem dX3_countFlaws_24 : decode prog_5_method_12_code 24 = .ok (.getfield 69, 3) := by decide +kernel
theorem dX3_countFlaws_27 : decode prog_5_method_12_code 27 = .ok (.bipush 64, 2) := by decide +kernel
theorem dX3_countFlaws_29 : decode prog_5_method_12_code 29 = .ok (.if_icmp .gt 20, 3) := by decide +kernel
theorem dX3_countFlaws_32 : decode prog_5_method_12_code 32 = .ok (.aload_n 0, 1) := by decide +kernel
theorem dX3_countFlaws_33 : decode prog_5_method_12_code 33 = .ok (.getfield 45, 3) := by decide +kernel
theorem dX3_countFlaws_36 : decode prog_5_method_12_code 36 = .ok (.ifCond .lt 13, 3) := by decide +kernel
theorem dX3_countFlaws_39 : decode prog_5_method_12_code 39 = .ok (.aload_n 0, 1) := by decide +kernel
theorem dX3_countFlaws_40 : decode prog_5_method_12_code 40 = .ok (.getfield 45, 3) := by decide +kernel
theorem dX3_countFlaws_43 : decode prog_5_method_12_code 43 = .ok (.sipush 14112, 3) := by decide +kernel
theorem dX3_countFlaws_46 : decode prog_5_method_12_code 46 = .ok (.if_icmp .le 6, 3) := by decide +kernel
theorem dX3_countFlaws_49 : decode prog_5_method_12_code 49 = .ok (.iinc 1 1, 3) := by decide +kernel
theorem dX3_countFlaws_52 : decode prog_5_method_12_code 52 = .ok (.aload_n 0, 1) := by decide +kernel
theorem dX3_countFlaws_53 : decode prog_5_method_12_code 53 = .ok (.getfield 41, 3) := by decide +kernel
theorem dX3_countFlaws_56 : decode prog_5_method_12_code 56 = .ok (.ifCond .ne 30, 3) := by decide +kernel
theorem dX3_countFlaws_59 : decode prog_5_method_12_code 59 = .ok (.aload_n 0, 1) := by decide +kernel
theorem dX3_countFlaws_60 : decode prog_5_method_12_code 60 = .ok (.getfield 75, 3) := by decide +kernel
theorem dX3_countFlaws_63 : decode prog_5_method_12_code 63 = .ok (.ifCond .ne 23, 3) := by decide +kernel
theorem dX3_countFlaws_66 : decode prog_5_method_12_code 66 = .ok (.aload_n 0, 1) := by decide +kernel
theorem dX3_countFlaws_67 : decode prog_5_method_12_code 67 = .ok (.getfield 12, 3) := by decide +kernel
theorem dX3_countFlaws_70 : decode prog_5_method_12_code 70 = .ok (.getfield 84, 3) := by decide +kernel
theorem dX3_countFlaws_73 : decode prog_5_method_12_code 73 = .ok (.aload_n 0, 1) := by decide +kernel
theorem dX3_countFlaws_74 : decode prog_5_method_12_code 74 = .ok (.getfield 18, 3) := by decide +kernel
theorem dX3_countFlaws_77 : decode prog_5_method_12_code 77 = .ok (.getfield 84, 3) := by decide +kernel
theorem dX3_countFlaws_80 : decode prog_5_method_12_code 80 = .ok (.if_icmp .eq 6, 3) := by decide +kernel
theorem dX3_countFlaws_83 : decode prog_5_method_12_code 83 = .ok (.iinc 1 1, 3) := by decide +kernel
theorem dX3_countFlaws_86 : decode prog_5_method_12_code 86 = .ok (.iload_n 1, 1) := by decide +kernel
theorem dX3_countFlaws_87 : decode prog_5_method_12_code 87 = .ok (.ireturn, 1) := by decide +kernel
theorem dX4_sideOf_0 : decode prog_6_method_2_code 0 = .ok (.aload_n 0, 1) := by decide +kernel
theorem dX4_sideOf_1 : decode prog_6_method_2_code 1 = .ok (.getfield 9, 3) := by decide +kernel
theorem dX4_sideOf_4 : decode prog_6_method_2_code 4 = .ok (.iload_n 1, 1) := by decide +kernel
theorem dX4_sideOf_5 : decode prog_6_method_2_code 5 = .ok (.iaload, 1) := by decide +kernel
theorem dX4_sideOf_6 : decode prog_6_method_2_code 6 = .ok (.i2l, 1) := by decide +kernel
theorem dX4_sideOf_7 : decode prog_6_method_2_code 7 = .ok (.lstore 6, 2) := by decide +kernel
theorem dX4_sideOf_9 : decode prog_6_method_2_code 9 = .ok (.aload_n 0, 1) := by decide +kernel
theorem dX4_sideOf_10 : decode prog_6_method_2_code 10 = .ok (.getfield 15, 3) := by decide +kernel
theorem dX4_sideOf_13 : decode prog_6_method_2_code 13 = .ok (.iload_n 1, 1) := by decide +kernel
theorem dX4_sideOf_14 : decode prog_6_method_2_code 14 = .ok (.iaload, 1) := by decide +kernel
theorem dX4_sideOf_15 : decode prog_6_method_2_code 15 = .ok (.i2l, 1) := by decide +kernel
theorem dX4_sideOf_16 : decode prog_6_method_2_code 16 = .ok (.lstore 8, 2) := by decide +kernel
theorem dX4_sideOf_18 : decode prog_6_method_2_code 18 = .ok (.aload_n 0, 1) := by decide +kernel
theorem dX4_sideOf_19 : decode prog_6_method_2_code 19 = .ok (.getfield 9, 3) := by decide +kernel
theorem dX4_sideOf_22 : decode prog_6_method_2_code 22 = .ok (.iload_n 1, 1) := by decide +kernel
theorem dX4_sideOf_23 : decode prog_6_method_2_code 23 = .ok (.iconst 1, 1) := by decide +kernel
theorem dX4_sideOf_24 : decode prog_6_method_2_code 24 = .ok (.iadd, 1) := by decide +kernel
theorem dX4_sideOf_25 : decode prog_6_method_2_code 25 = .ok (.iaload, 1) := by decide +kernel
theorem dX4_sideOf_26 : decode prog_6_method_2_code 26 = .ok (.i2l, 1) := by decide +kernel
theorem dX4_sideOf_27 : decode prog_6_method_2_code 27 = .ok (.lload 6, 2) := by decide +kernel
theorem dX4_sideOf_29 : decode prog_6_method_2_code 29 = .ok (.lsub, 1) := by decide +kernel
theorem dX4_sideOf_30 : decode prog_6_method_2_code 30 = .ok (.lload 4, 2) := by decide +kernel
theorem dX4_sideOf_32 : decode prog_6_method_2_code 32 = .ok (.lload 8, 2) := by decide +kernel
theorem dX4_sideOf_34 : decode prog_6_method_2_code 34 = .ok (.lsub, 1) := by decide +kernel
theorem dX4_sideOf_35 : decode prog_6_method_2_code 35 = .ok (.lmul, 1) := by decide +kernel
theorem dX4_sideOf_36 : decode prog_6_method_2_code 36 = .ok (.aload_n 0, 1) := by decide +kernel
theorem dX4_sideOf_37 : decode prog_6_method_2_code 37 = .ok (.getfield 15, 3) := by decide +kernel
theorem dX4_sideOf_40 : decode prog_6_method_2_code 40 = .ok (.iload_n 1, 1) := by decide +kernel
theorem dX4_sideOf_41 : decode prog_6_method_2_code 41 = .ok (.iconst 1, 1) := by decide +kernel
theorem dX4_sideOf_42 : decode prog_6_method_2_code 42 = .ok (.iadd, 1) := by decide +kernel
theorem dX4_sideOf_43 : decode prog_6_method_2_code 43 = .ok (.iaload, 1) := by decide +kernel
theorem dX4_sideOf_44 : decode prog_6_method_2_code 44 = .ok (.i2l, 1) := by decide +kernel
theorem dX4_sideOf_45 : decode prog_6_method_2_code 45 = .ok (.lload 8, 2) := by decide +kernel
theorem dX4_sideOf_47 : decode prog_6_method_2_code 47 = .ok (.lsub, 1) := by decide +kernel
theorem dX4_sideOf_48 : decode prog_6_method_2_code 48 = .ok (.lload_n 2, 1) := by decide +kernel
theorem dX4_sideOf_49 : decode prog_6_method_2_code 49 = .ok (.lload 6, 2) := by decide +kernel
theorem dX4_sideOf_51 : decode prog_6_method_2_code 51 = .ok (.lsub, 1) := by decide +kernel
theorem dX4_sideOf_52 : decode prog_6_method_2_code 52 = .ok (.lmul, 1) := by decide +kernel
theorem dX4_sideOf_53 : decode prog_6_method_2_code 53 = .ok (.lsub, 1) := by decide +kernel
theorem dX4_sideOf_54 : decode prog_6_method_2_code 54 = .ok (.lreturn, 1) := by decide +kernel
theorem dX4_isInBoxOf_0 : decode prog_6_method_3_code 0 = .ok (.aload_n 0, 1) := by decide +kernel
theorem dX4_isInBoxOf_1 : decode prog_6_method_3_code 1 = .ok (.getfield 9, 3) := by decide +kernel
theorem dX4_isInBoxOf_4 : decode prog_6_method_3_code 4 = .ok (.iload_n 1, 1) := by decide +kernel
theorem dX4_isInBoxOf_5 : decode prog_6_method_3_code 5 = .ok (.iaload, 1) := by decide +kernel
theorem dX4_isInBoxOf_6 : decode prog_6_method_3_code 6 = .ok (.iload_n 2, 1) := by decide +kernel
theorem dX4_isInBoxOf_7 : decode prog_6_method_3_code 7 = .ok (.if_icmp .gt 15, 3) := by decide +kernel
theorem dX4_isInBoxOf_10 : decode prog_6_method_3_code 10 = .ok (.iload_n 2, 1) := by decide +kernel
theorem dX4_isInBoxOf_11 : decode prog_6_method_3_code 11 = .ok (.aload_n 0, 1) := by decide +kernel
theorem dX4_isInBoxOf_12 : decode prog_6_method_3_code 12 = .ok (.getfield 9, 3) := by decide +kernel
theorem dX4_isInBoxOf_15 : decode prog_6_method_3_code 15 = .ok (.iload_n 1, 1) := by decide +kernel
theorem dX4_isInBoxOf_16 : decode prog_6_method_3_code 16 = .ok (.iconst 1, 1) := by decide +kernel
theorem dX4_isInBoxOf_17 : decode prog_6_method_3_code 17 = .ok (.iadd, 1) := by decide +kernel
theorem dX4_isInBoxOf_18 : decode prog_6_method_3_code 18 = .ok (.iaload, 1) := by decide +kernel
theorem dX4_isInBoxOf_19 : decode prog_6_method_3_code 19 = .ok (.if_icmp .le 25, 3) := by decide +kernel
theorem dX4_isInBoxOf_22 : decode prog_6_method_3_code 22 = .ok (.aload_n 0, 1) := by decide +kernel
theorem dX4_isInBoxOf_23 : decode prog_6_method_3_code 23 = .ok (.getfield 9, 3) := by decide +kernel
theorem dX4_isInBoxOf_26 : decode prog_6_method_3_code 26 = .ok (.iload_n 1, 1) := by decide +kernel
theorem dX4_isInBoxOf_27 : decode prog_6_method_3_code 27 = .ok (.iconst 1, 1) := by decide +kernel
theorem dX4_isInBoxOf_28 : decode prog_6_method_3_code 28 = .ok (.iadd, 1) := by decide +kernel
theorem dX4_isInBoxOf_29 : decode prog_6_method_3_code 29 = .ok (.iaload, 1) := by decide +kernel
theorem dX4_isInBoxOf_30 : decode prog_6_method_3_code 30 = .ok (.iload_n 2, 1) := by decide +kernel
theorem dX4_isInBoxOf_31 : decode prog_6_method_3_code 31 = .ok (.if_icmp .gt 17, 3) := by decide +kernel
theorem dX4_isInBoxOf_34 : decode prog_6_method_3_code 34 = .ok (.iload_n 2, 1) := by decide +kernel
theorem dX4_isInBoxOf_35 : decode prog_6_method_3_code 35 = .ok (.aload_n 0, 1) := by decide +kernel
theorem dX4_isInBoxOf_36 : decode prog_6_method_3_code 36 = .ok (.getfield 9, 3) := by decide +kernel
theorem dX4_isInBoxOf_39 : decode prog_6_method_3_code 39 = .ok (.iload_n 1, 1) := by decide +kernel
theorem dX4_isInBoxOf_40 : decode prog_6_method_3_code 40 = .ok (.iaload, 1) := by decide +kernel
theorem dX4_isInBoxOf_41 : decode prog_6_method_3_code 41 = .ok (.if_icmp .gt 7, 3) := by decide +kernel
theorem dX4_isInBoxOf_44 : decode prog_6_method_3_code 44 = .ok (.iconst 1, 1) := by decide +kernel
theorem dX4_isInBoxOf_45 : decode prog_6_method_3_code 45 = .ok (.goto 4, 3) := by decide +kernel
theorem dX4_isInBoxOf_48 : decode prog_6_method_3_code 48 = .ok (.iconst 0, 1) := by decide +kernel
theorem dX4_isInBoxOf_49 : decode prog_6_method_3_code 49 = .ok (.istore 4, 2) := by decide +kernel
theorem dX4_isInBoxOf_51 : decode prog_6_method_3_code 51 = .ok (.iload 4, 2) := by decide +kernel
theorem dX4_isInBoxOf_53 : decode prog_6_method_3_code 53 = .ok (.ifCond .eq 51, 3) := by decide +kernel
theorem dX4_isInBoxOf_56 : decode prog_6_method_3_code 56 = .ok (.aload_n 0, 1) := by decide +kernel
theorem dX4_isInBoxOf_57 : decode prog_6_method_3_code 57 = .ok (.getfield 15, 3) := by decide +kernel
theorem dX4_isInBoxOf_60 : decode prog_6_method_3_code 60 = .ok (.iload_n 1, 1) := by decide +kernel
theorem dX4_isInBoxOf_61 : decode prog_6_method_3_code 61 = .ok (.iaload, 1) := by decide +kernel
theorem dX4_isInBoxOf_62 : decode prog_6_method_3_code 62 = .ok (.iload_n 3, 1) := by decide +kernel
theorem dX4_isInBoxOf_63 : decode prog_6_method_3_code 63 = .ok (.if_icmp .gt 15, 3) := by decide +kernel
theorem dX4_isInBoxOf_66 : decode prog_6_method_3_code 66 = .ok (.iload_n 3, 1) := by decide +kernel
theorem dX4_isInBoxOf_67 : decode prog_6_method_3_code 67 = .ok (.aload_n 0, 1) := by decide +kernel
theorem dX4_isInBoxOf_68 : decode prog_6_method_3_code 68 = .ok (.getfield 15, 3) := by decide +kernel
theorem dX4_isInBoxOf_71 : decode prog_6_method_3_code 71 = .ok (.iload_n 1, 1) := by decide +kernel
theorem dX4_isInBoxOf_72 : decode prog_6_method_3_code 72 = .ok (.iconst 1, 1) := by decide +kernel
theorem dX4_isInBoxOf_73 : decode prog_6_method_3_code 73 = .ok (.iadd, 1) := by decide +kernel
theorem dX4_isInBoxOf_74 : decode prog_6_method_3_code 74 = .ok (.iaload, 1) := by decide +kernel
theorem dX4_isInBoxOf_75 : decode prog_6_method_3_code 75 = .ok (.if_icmp .le 25, 3) := by decide +kernel
theorem dX4_isInBoxOf_78 : decode prog_6_method_3_code 78 = .ok (.aload_n 0, 1) := by decide +kernel
theorem dX4_isInBoxOf_79 : decode prog_6_method_3_code 79 = .ok (.getfield 15, 3) := by decide +kernel
theorem dX4_isInBoxOf_82 : decode prog_6_method_3_code 82 = .ok (.iload_n 1, 1) := by decide +kernel
theorem dX4_isInBoxOf_83 : decode prog_6_method_3_code 83 = .ok (.iconst 1, 1) := by decide +kernel
theorem dX4_isInBoxOf_84 : decode prog_6_method_3_code 84 = .ok (.iadd, 1) := by decide +kernel
theorem dX4_isInBoxOf_85 : decode prog_6_method_3_code 85 = .ok (.iaload, 1) := by decide +kernel
theorem dX4_isInBoxOf_86 : decode prog_6_method_3_code 86 = .ok (.iload_n 3, 1) := by decide +kernel
theorem dX4_isInBoxOf_87 : decode prog_6_method_3_code 87 = .ok (.if_icmp .gt 17, 3) := by decide +kernel
theorem dX4_isInBoxOf_90 : decode prog_6_method_3_code 90 = .ok (.iload_n 3, 1) := by decide +kernel
theorem dX4_isInBoxOf_91 : decode prog_6_method_3_code 91 = .ok (.aload_n 0, 1) := by decide +kernel
theorem dX4_isInBoxOf_92 : decode prog_6_method_3_code 92 = .ok (.getfield 15, 3) := by decide +kernel
theorem dX4_isInBoxOf_95 : decode prog_6_method_3_code 95 = .ok (.iload_n 1, 1) := by decide +kernel
theorem dX4_isInBoxOf_96 : decode prog_6_method_3_code 96 = .ok (.iaload, 1) := by decide +kernel
theorem dX4_isInBoxOf_97 : decode prog_6_method_3_code 97 = .ok (.if_icmp .gt 7, 3) := by decide +kernel
theorem dX4_isInBoxOf_100 : decode prog_6_method_3_code 100 = .ok (.iconst 1, 1) := by decide +kernel
theorem dX4_isInBoxOf_101 : decode prog_6_method_3_code 101 = .ok (.goto 4, 3) := by decide +kernel
theorem dX4_isInBoxOf_104 : decode prog_6_method_3_code 104 = .ok (.iconst 0, 1) := by decide +kernel
theorem dX4_isInBoxOf_105 : decode prog_6_method_3_code 105 = .ok (.ireturn, 1) := by decide +kernel
theorem dX4_isOnWay_0 : decode prog_6_method_4_code 0 = .ok (.aload_n 0, 1) := by decide +kernel
theorem dX4_isOnWay_1 : decode prog_6_method_4_code 1 = .ok (.iload_n 1, 1) := by decide +kernel
theorem dX4_isOnWay_2 : decode prog_6_method_4_code 2 = .ok (.iload_n 2, 1) := by decide +kernel
theorem dX4_isOnWay_3 : decode prog_6_method_4_code 3 = .ok (.iload_n 3, 1) := by decide +kernel
theorem dX4_isOnWay_4 : decode prog_6_method_4_code 4 = .ok (.invokestatic 18, 3) := by decide +kernel
theorem dX4_isOnWay_7 : decode prog_6_method_4_code 7 = .ok (.ifCond .eq 21, 3) := by decide +kernel
theorem dX4_isOnWay_10 : decode prog_6_method_4_code 10 = .ok (.aload_n 0, 1) := by decide +kernel
theorem dX4_isOnWay_11 : decode prog_6_method_4_code 11 = .ok (.iload_n 1, 1) := by decide +kernel
theorem dX4_isOnWay_12 : decode prog_6_method_4_code 12 = .ok (.iload_n 2, 1) := by decide +kernel
theorem dX4_isOnWay_13 : decode prog_6_method_4_code 13 = .ok (.i2l, 1) := by decide +kernel
theorem dX4_isOnWay_14 : decode prog_6_method_4_code 14 = .ok (.iload_n 3, 1) := by decide +kernel
theorem dX4_isOnWay_15 : decode prog_6_method_4_code 15 = .ok (.i2l, 1) := by decide +kernel
theorem dX4_isOnWay_16 : decode prog_6_method_4_code 16 = .ok (.invokestatic 24, 3) := by decide +kernel
theorem dX4_isOnWay_19 : decode prog_6_method_4_code 19 = .ok (.lconst 0, 1) := by decide +kernel
theorem dX4_isOnWay_20 : decode prog_6_method_4_code 20 = .ok (.lcmp, 1) := by decide +kernel
theorem dX4_isOnWay_21 : decode prog_6_method_4_code 21 = .ok (.ifCond .ne 7, 3) := by decide +kernel
theorem dX4_isOnWay_24 : decode prog_6_method_4_code 24 = .ok (.iconst 1, 1) := by decide +kernel
theorem dX4_isOnWay_25 : decode prog_6_method_4_code 25 = .ok (.goto 4, 3) := by decide +kernel
theorem dX4_isOnWay_28 : decode prog_6_method_4_code 28 = .ok (.iconst 0, 1) := by decide +kernel
theorem dX4_isOnWay_29 : decode prog_6_method_4_code 29 = .ok (.ireturn, 1) := by decide +kernel
theorem dX4_locate_0 : decode prog_6_method_5_code 0 = .ok (.iload_n 1, 1) := by decide +kernel
theorem dX4_locate_1 : decode prog_6_method_5_code 1 = .ok (.aload_n 0, 1) := by decide +kernel
theorem dX4_locate_2 : decode prog_6_method_5_code 2 = .ok (.getfield 28, 3) := by decide +kernel
theorem dX4_locate_5 : decode prog_6_method_5_code 5 = .ok (.if_icmp .lt 27, 3) := by decide +kernel
theorem dX4_locate_8 : decode prog_6_method_5_code 8 = .ok (.iload_n 1, 1) := by decide +kernel
theorem dX4_locate_9 : decode prog_6_method_5_code 9 = .ok (.aload_n 0, 1) := by decide +kernel
theorem dX4_locate_10 : decode prog_6_method_5_code 10 = .ok (.getfield 32, 3) := by decide +kernel
theorem dX4_locate_13 : decode prog_6_method_5_code 13 = .ok (.if_icmp .gt 19, 3) := by decide +kernel
theorem dX4_locate_16 : decode prog_6_method_5_code 16 = .ok (.iload_n 2, 1) := by decide +kernel
theorem dX4_locate_17 : decode prog_6_method_5_code 17 = .ok (.aload_n 0, 1) := by decide +kernel
theorem dX4_locate_18 : decode prog_6_method_5_code 18 = .ok (.getfield 35, 3) := by decide +kernel
theorem dX4_locate_21 : decode prog_6_method_5_code 21 = .ok (.if_icmp .lt 11, 3) := by decide +kernel
theorem dX4_locate_24 : decode prog_6_method_5_code 24 = .ok (.iload_n 2, 1) := by decide +kernel
theorem dX4_locate_25 : decode prog_6_method_5_code 25 = .ok (.aload_n 0, 1) := by decide +kernel
theorem dX4_locate_26 : decode prog_6_method_5_code 26 = .ok (.getfield 38, 3) := by decide +kernel
theorem dX4_locate_29 : decode prog_6_method_5_code 29 = .ok (.if_icmp .le 5, 3) := by decide +kernel
theorem dX4_locate_32 : decode prog_6_method_5_code 32 = .ok (.iconst (-1), 1) := by decide +kernel
theorem dX4_locate_33 : decode prog_6_method_5_code 33 = .ok (.ireturn, 1) := by decide +kernel
theorem dX4_locate_34 : decode prog_6_method_5_code 34 = .ok (.aload_n 0, 1) := by decide +kernel
theorem dX4_locate_35 : decode prog_6_method_5_code 35 = .ok (.getfield 41, 3) := by decide +kernel
theorem dX4_locate_38 : decode prog_6_method_5_code 38 = .ok (.ifCond .ne 5, 3) := by decide +kernel
theorem dX4_locate_41 : decode prog_6_method_5_code 41 = .ok (.iconst 1, 1) := by decide +kernel
theorem dX4_locate_42 : decode prog_6_method_5_code 42 = .ok (.ireturn, 1) := by decide +kernel
theorem dX4_locate_43 : decode prog_6_method_5_code 43 = .ok (.aload_n 0, 1) := by decide +kernel
theorem dX4_locate_44 : decode prog_6_method_5_code 44 = .ok (.getfield 41, 3) := by decide +kernel
theorem dX4_locate_47 : decode prog_6_method_5_code 47 = .ok (.iconst 1, 1) := by decide +kernel
theorem dX4_locate_48 : decode prog_6_method_5_code 48 = .ok (.if_icmp .ne 12, 3) := by decide +kernel
theorem dX4_locate_51 : decode prog_6_method_5_code 51 = .ok (.aload_n 0, 1) := by decide +kernel
theorem dX4_locate_52 : decode prog_6_method_5_code 52 = .ok (.iload_n 1, 1) := by decide +kernel
theorem dX4_locate_53 : decode prog_6_method_5_code 53 = .ok (.iload_n 2, 1) := by decide +kernel
theorem dX4_locate_54 : decode prog_6_method_5_code 54 = .ok (.invokestatic 44, 3) := by decide +kernel
theorem dX4_locate_57 : decode prog_6_method_5_code 57 = .ok (.goto 9, 3) := by decide +kernel
theorem dX4_locate_60 : decode prog_6_method_5_code 60 = .ok (.aload_n 0, 1) := by decide +kernel
theorem dX4_locate_61 : decode prog_6_method_5_code 61 = .ok (.iload_n 1, 1) := by decide +kernel
theorem dX4_locate_62 : decode prog_6_method_5_code 62 = .ok (.iload_n 2, 1) := by decide +kernel
theorem dX4_locate_63 : decode prog_6_method_5_code 63 = .ok (.invokestatic 48, 3) := by decide +kernel
theorem dX4_locate_66 : decode prog_6_method_5_code 66 = .ok (.ireturn, 1) := by decide +kernel
theorem dX4_locateOnLine_0 : decode prog_6_method_6_code 0 = .ok (.aload_n 0, 1) := by decide +kernel
theorem dX4_locateOnLine_1 : decode prog_6_method_6_code 1 = .ok (.getfield 51, 3) := by decide +kernel
theorem dX4_locateOnLine_4 : decode prog_6_method_6_code 4 = .ok (.iconst 1, 1) := by decide +kernel
theorem dX4_locateOnLine_5 : decode prog_6_method_6_code 5 = .ok (.isub, 1) := by decide +kernel
theorem dX4_locateOnLine_6 : decode prog_6_method_6_code 6 = .ok (.istore_n 3, 1) := by decide +kernel
theorem dX4_locateOnLine_7 : decode prog_6_method_6_code 7 = .ok (.iload_n 3, 1) := by decide +kernel
theorem dX4_locateOnLine_8 : decode prog_6_method_6_code 8 = .ok (.iconst 1, 1) := by decide +kernel
theorem dX4_locateOnLine_9 : decode prog_6_method_6_code 9 = .ok (.if_icmp .lt 66, 3) := by decide +kernel
theorem dX4_locateOnLine_12 : decode prog_6_method_6_code 12 = .ok (.aload_n 0, 1) := by decide +kernel
theorem dX4_locateOnLine_13 : decode prog_6_method_6_code 13 = .ok (.iconst 0, 1) := by decide +kernel
theorem dX4_locateOnLine_14 : decode prog_6_method_6_code 14 = .ok (.iload_n 3, 1) := by decide +kernel
theorem dX4_locateOnLine_15 : decode prog_6_method_6_code 15 = .ok (.invokevirtual 54, 3) := by decide +kernel
theorem dX4_locateOnLine_18 : decode prog_6_method_6_code 18 = .ok (.ifCond .ne 57, 3) := by decide +kernel
theorem dX4_locateOnLine_21 : decode prog_6_method_6_code 21 = .ok (.aload_n 0, 1) := by decide +kernel
theorem dX4_locateOnLine_22 : decode prog_6_method_6_code 22 = .ok (.getfield 9, 3) := by decide +kernel
theorem dX4_locateOnLine_25 : decode prog_6_method_6_code 25 = .ok (.iconst 0, 1) := by decide +kernel
theorem dX4_locateOnLine_26 : decode prog_6_method_6_code 26 = .ok (.iaload, 1) := by decide +kernel
theorem dX4_locateOnLine_27 : decode prog_6_method_6_code 27 = .ok (.iload_n 1, 1) := by decide +kernel
theorem dX4_locateOnLine_28 : decode prog_6_method_6_code 28 = .ok (.if_icmp .ne 17, 3) := by decide +kernel
theorem dX4_locateOnLine_31 : decode prog_6_method_6_code 31 = .ok (.aload_n 0, 1) := by decide +kernel
theorem dX4_locateOnLine_32 : decode prog_6_method_6_code 32 = .ok (.getfield 15, 3) := by decide +kernel
theorem dX4_locateOnLine_35 : decode prog_6_method_6_code 35 = .ok (.iconst 0, 1) := by decide +kernel
theorem dX4_locateOnLine_36 : decode prog_6_method_6_code 36 = .ok (.iaload, 1) := by decide +kernel
theorem dX4_locateOnLine_37 : decode prog_6_method_6_code 37 = .ok (.iload_n 2, 1) := by decide +kernel
theorem dX4_locateOnLine_38 : decode prog_6_method_6_code 38 = .ok (.if_icmp .ne 7, 3) := by decide +kernel
theorem dX4_locateOnLine_41 : decode prog_6_method_6_code 41 = .ok (.iconst 1, 1) := by decide +kernel
theorem dX4_locateOnLine_42 : decode prog_6_method_6_code 42 = .ok (.goto 4, 3) := by decide +kernel
theorem dX4_locateOnLine_45 : decode prog_6_method_6_code 45 = .ok (.iconst 0, 1) := by decide +kernel
theorem dX4_locateOnLine_46 : decode prog_6_method_6_code 46 = .ok (.istore 4, 2) := by decide +kernel
theorem dX4_locateOnLine_48 : decode prog_6_method_6_code 48 = .ok (.iload 4, 2) := by decide +kernel
theorem dX4_locateOnLine_50 : decode prog_6_method_6_code 50 = .ok (.ifCond .ne 23, 3) := by decide +kernel
theorem dX4_locateOnLine_53 : decode prog_6_method_6_code 53 = .ok (.aload_n 0, 1) := by decide +kernel
theorem dX4_locateOnLine_54 : decode prog_6_method_6_code 54 = .ok (.getfield 9, 3) := by decide +kernel
theorem dX4_locateOnLine_57 : decode prog_6_method_6_code 57 = .ok (.iload_n 3, 1) := by decide +kernel
theorem dX4_locateOnLine_58 : decode prog_6_method_6_code 58 = .ok (.iaload, 1) := by decide +kernel
theorem dX4_locateOnLine_59 : decode prog_6_method_6_code 59 = .ok (.iload_n 1, 1) := by decide +kernel
theorem dX4_locateOnLine_60 : decode prog_6_method_6_code 60 = .ok (.if_icmp .ne 15, 3) := by decide +kernel
theorem dX4_locateOnLine_63 : decode prog_6_method_6_code 63 = .ok (.aload_n 0, 1) := by decide +kernel
theorem dX4_locateOnLine_64 : decode prog_6_method_6_code 64 = .ok (.getfield 15, 3) := by decide +kernel
theorem dX4_locateOnLine_67 : decode prog_6_method_6_code 67 = .ok (.iload_n 3, 1) := by decide +kernel
theorem dX4_locateOnLine_68 : decode prog_6_method_6_code 68 = .ok (.iaload, 1) := by decide +kernel
theorem dX4_locateOnLine_69 : decode prog_6_method_6_code 69 = .ok (.iload_n 2, 1) := by decide +kernel
theorem dX4_locateOnLine_70 : decode prog_6_method_6_code 70 = .ok (.if_icmp .ne 5, 3) := by decide +kernel
theorem dX4_locateOnLine_73 : decode prog_6_method_6_code 73 = .ok (.iconst 0, 1) := by decide +kernel
theorem dX4_locateOnLine_74 : decode prog_6_method_6_code 74 = .ok (.ireturn, 1) := by decide +kernel
theorem dX4_locateOnLine_75 : decode prog_6_method_6_code 75 = .ok (.iconst 0, 1) := by decide +kernel
theorem dX4_locateOnLine_76 : decode prog_6_method_6_code 76 = .ok (.istore 4, 2) := by decide +kernel
theorem dX4_locateOnLine_78 : decode prog_6_method_6_code 78 = .ok (.iload 4, 2) := by decide +kernel
theorem dX4_locateOnLine_80 : decode prog_6_method_6_code 80 = .ok (.iload_n 3, 1) := by decide +kernel
theorem dX4_locateOnLine_81 : decode prog_6_method_6_code 81 = .ok (.if_icmp .ge 22, 3) := by decide +kernel
theorem dX4_locateOnLine_84 : decode prog_6_method_6_code 84 = .ok (.aload_n 0, 1) := by decide +kernel
theorem dX4_locateOnLine_85 : decode prog_6_method_6_code 85 = .ok (.iload 4, 2) := by decide +kernel
theorem dX4_locateOnLine_87 : decode prog_6_method_6_code 87 = .ok (.iload_n 1, 1) := by decide +kernel
theorem dX4_locateOnLine_88 : decode prog_6_method_6_code 88 = .ok (.iload_n 2, 1) := by decide +kernel
theorem dX4_locateOnLine_89 : decode prog_6_method_6_code 89 = .ok (.invokestatic 58, 3) := by decide +kernel
theorem dX4_locateOnLine_92 : decode prog_6_method_6_code 92 = .ok (.ifCond .eq 5, 3) := by decide +kernel
theorem dX4_locateOnLine_95 : decode prog_6_method_6_code 95 = .ok (.iconst 1, 1) := by decide +kernel
theorem dX4_locateOnLine_96 : decode prog_6_method_6_code 96 = .ok (.ireturn, 1) := by decide +kernel
theorem dX4_locateOnLine_97 : decode prog_6_method_6_code 97 = .ok (.iinc 4 1, 3) := by decide +kernel
theorem dX4_locateOnLine_100 : decode prog_6_method_6_code 100 = .ok (.goto (-22), 3) := by decide +kernel
theorem dX4_locateOnLine_103 : decode prog_6_method_6_code 103 = .ok (.iconst (-1), 1) := by decide +kernel
theorem dX4_locateOnLine_104 : decode prog_6_method_6_code 104 = .ok (.ireturn, 1) := by decide +kernel
theorem dX4_locateInPolygon_0 : decode prog_6_method_7_code 0 = .ok (.iconst 0, 1) := by decide +kernel
theorem dX4_locateInPolygon_1 : decode prog_6_method_7_code 1 = .ok (.istore_n 3, 1) := by decide +kernel
theorem dX4_locateInPolygon_2 : decode prog_6_method_7_code 2 = .ok (.iconst 0, 1) := by decide +kernel
theorem dX4_locateInPolygon_3 : decode prog_6_method_7_code 3 = .ok (.istore 4, 2) := by decide +kernel
theorem dX4_locateInPolygon_5 : decode prog_6_method_7_code 5 = .ok (.iload 4, 2) := by decide +kernel
theorem dX4_locateInPolygon_7 : decode prog_6_method_7_code 7 = .ok (.iconst 1, 1) := by decide +kernel
theorem dX4_locateInPolygon_8 : decode prog_6_method_7_code 8 = .ok (.iadd, 1) := by decide +kernel
theorem dX4_locateInPolygon_9 : decode prog_6_method_7_code 9 = .ok (.aload_n 0, 1) := by decide +kernel
theorem dX4_locateInPolygon_10 : decode prog_6_method_7_code 10 = .ok (.getfield 51, 3) := by decide +kernel
theorem dX4_locateInPolygon_13 : decode prog_6_method_7_code 13 = .ok (.if_icmp .ge 111, 3) := by decide +kernel
theorem dX4_locateInPolygon_16 : decode prog_6_method_7_code 16 = .ok (.aload_n 0, 1) := by decide +kernel
theorem dX4_locateInPolygon_17 : decode prog_6_method_7_code 17 = .ok (.getfield 61, 3) := by decide +kernel
theorem dX4_locateInPolygon_20 : decode prog_6_method_7_code 20 = .ok (.iload 4, 2) := by decide +kernel
theorem dX4_locateInPolygon_22 : decode prog_6_method_7_code 22 = .ok (.baload, 1) := by decide +kernel
theorem dX4_locateInPolygon_23 : decode prog_6_method_7_code 23 = .ok (.ifCond .eq 6, 3) := by decide +kernel
theorem dX4_locateInPolygon_26 : decode prog_6_method_7_code 26 = .ok (.goto 92, 3) := by decide +kernel
theorem dX4_locateInPolygon_29 : decode prog_6_method_7_code 29 = .ok (.aload_n 0, 1) := by decide +kernel
theorem dX4_locateInPolygon_30 : decode prog_6_method_7_code 30 = .ok (.iload 4, 2) := by decide +kernel
theorem dX4_locateInPolygon_32 : decode prog_6_method_7_code 32 = .ok (.iload_n 1, 1) := by decide +kernel
theorem dX4_locateInPolygon_33 : decode prog_6_method_7_code 33 = .ok (.iload_n 2, 1) := by decide +kernel
theorem dX4_locateInPolygon_34 : decode prog_6_method_7_code 34 = .ok (.invokestatic 58, 3) := by decide +kernel
theorem dX4_locateInPolygon_37 : decode prog_6_method_7_code 37 = .ok (.ifCond .eq 5, 3) := by decide +kernel
theorem dX4_locateInPolygon_40 : decode prog_6_method_7_code 40 = .ok (.iconst 0, 1) := by decide +kernel
theorem dX4_locateInPolygon_41 : decode prog_6_method_7_code 41 = .ok (.ireturn, 1) := by decide +kernel
theorem dX4_locateInPolygon_42 : decode prog_6_method_7_code 42 = .ok (.aload_n 0, 1) := by decide +kernel
theorem dX4_locateInPolygon_43 : decode prog_6_method_7_code 43 = .ok (.getfield 15, 3) := by decide +kernel
theorem dX4_locateInPolygon_46 : decode prog_6_method_7_code 46 = .ok (.iload 4, 2) := by decide +kernel
theorem dX4_locateInPolygon_48 : decode prog_6_method_7_code 48 = .ok (.iconst 1, 1) := by decide +kernel
theorem dX4_locateInPolygon_49 : decode prog_6_method_7_code 49 = .ok (.iadd, 1) := by decide +kernel
theorem dX4_locateInPolygon_50 : decode prog_6_method_7_code 50 = .ok (.iaload, 1) := by decide +kernel
theorem dX4_locateInPolygon_51 : decode prog_6_method_7_code 51 = .ok (.iload_n 2, 1) := by decide +kernel
theorem dX4_locateInPolygon_52 : decode prog_6_method_7_code 52 = .ok (.if_icmp .le 7, 3) := by decide +kernel
theorem dX4_locateInPolygon_55 : decode prog_6_method_7_code 55 = .ok (.iconst 1, 1) := by decide +kernel
theorem dX4_locateInPolygon_56 : decode prog_6_method_7_code 56 = .ok (.goto 4, 3) := by decide +kernel
theorem dX4_locateInPolygon_59 : decode prog_6_method_7_code 59 = .ok (.iconst 0, 1) := by decide +kernel
theorem dX4_locateInPolygon_60 : decode prog_6_method_7_code 60 = .ok (.istore 5, 2) := by decide +kernel
theorem dX4_locateInPolygon_62 : decode prog_6_method_7_code 62 = .ok (.aload_n 0, 1) := by decide +kernel
theorem dX4_locateInPolygon_63 : decode prog_6_method_7_code 63 = .ok (.getfield 15, 3) := by decide +kernel
theorem dX4_locateInPolygon_66 : decode prog_6_method_7_code 66 = .ok (.iload 4, 2) := by decide +kernel
theorem dX4_locateInPolygon_68 : decode prog_6_method_7_code 68 = .ok (.iaload, 1) := by decide +kernel
theorem dX4_locateInPolygon_69 : decode prog_6_method_7_code 69 = .ok (.iload_n 2, 1) := by decide +kernel
theorem dX4_locateInPolygon_70 : decode prog_6_method_7_code 70 = .ok (.if_icmp .le 7, 3) := by decide +kernel
theorem dX4_locateInPolygon_73 : decode prog_6_method_7_code 73 = .ok (.iconst 1, 1) := by decide +kernel
theorem dX4_locateInPolygon_74 : decode prog_6_method_7_code 74 = .ok (.goto 4, 3) := by decide +kernel
theorem dX4_locateInPolygon_77 : decode prog_6_method_7_code 77 = .ok (.iconst 0, 1) := by decide +kernel
theorem dX4_locateInPolygon_78 : decode prog_6_method_7_code 78 = .ok (.iload 5, 2) := by decide +kernel
theorem dX4_locateInPolygon_80 : decode prog_6_method_7_code 80 = .ok (.if_icmp .eq 38, 3) := by decide +kernel
theorem dX4_locateInPolygon_83 : decode prog_6_method_7_code 83 = .ok (.aload_n 0, 1) := by decide +kernel
theorem dX4_locateInPolygon_84 : decode prog_6_method_7_code 84 = .ok (.iload 4, 2) := by decide +kernel
theorem dX4_locateInPolygon_86 : decode prog_6_method_7_code 86 = .ok (.iload_n 1, 1) := by decide +kernel
theorem dX4_locateInPolygon_87 : decode prog_6_method_7_code 87 = .ok (.i2l, 1) := by decide +kernel
theorem dX4_locateInPolygon_88 : decode prog_6_method_7_code 88 = .ok (.iload_n 2, 1) := by decide +kernel
theorem dX4_locateInPolygon_89 : decode prog_6_method_7_code 89 = .ok (.i2l, 1) := by decide +kernel
theorem dX4_locateInPolygon_90 : decode prog_6_method_7_code 90 = .ok (.invokestatic 24, 3) := by decide +kernel
theorem dX4_locateInPolygon_93 : decode prog_6_method_7_code 93 = .ok (.lconst 0, 1) := by decide +kernel
theorem dX4_locateInPolygon_94 : decode prog_6_method_7_code 94 = .ok (.lcmp, 1) := by decide +kernel
theorem dX4_locateInPolygon_95 : decode prog_6_method_7_code 95 = .ok (.ifCond .le 7, 3) := by decide +kernel
theorem dX4_locateInPolygon_98 : decode prog_6_method_7_code 98 = .ok (.iconst 1, 1) := by decide +kernel
theorem dX4_locateInPolygon_99 : decode prog_6_method_7_code 99 = .ok (.goto 4, 3) := by decide +kernel
theorem dX4_locateInPolygon_102 : decode prog_6_method_7_code 102 = .ok (.iconst 0, 1) := by decide +kernel
theorem dX4_locateInPolygon_103 : decode prog_6_method_7_code 103 = .ok (.iload 5, 2) := by decide +kernel
theorem dX4_locateInPolygon_105 : decode prog_6_method_7_code 105 = .ok (.if_icmp .ne 13, 3) := by decide +kernel
theorem dX4_locateInPolygon_108 : decode prog_6_method_7_code 108 = .ok (.iload_n 3, 1) := by decide +kernel
theorem dX4_locateInPolygon_109 : decode prog_6_method_7_code 109 = .ok (.ifCond .ne 7, 3) := by decide +kernel
theorem dX4_locateInPolygon_112 : decode prog_6_method_7_code 112 = .ok (.iconst 1, 1) := by decide +kernel
theorem dX4_locateInPolygon_113 : decode prog_6_method_7_code 113 = .ok (.goto 4, 3) := by decide +kernel
theorem dX4_locateInPolygon_116 : decode prog_6_method_7_code 116 = .ok (.iconst 0, 1) := by decide +kernel
theorem dX4_locateInPolygon_117 : decode prog_6_method_7_code 117 = .ok (.istore_n 3, 1) := by decide +kernel
theorem dX4_locateInPolygon_118 : decode prog_6_method_7_code 118 = .ok (.iinc 4 1, 3) := by decide +kernel
theorem dX4_locateInPolygon_121 : decode prog_6_method_7_code 121 = .ok (.goto (-116), 3) := by decide +kernel
theorem dX4_locateInPolygon_124 : decode prog_6_method_7_code 124 = .ok (.iload_n 3, 1) := by decide +kernel
theorem dX4_locateInPolygon_125 : decode prog_6_method_7_code 125 = .ok (.ifCond .eq 7, 3) := by decide +kernel
theorem dX4_locateInPolygon_128 : decode prog_6_method_7_code 128 = .ok (.iconst 1, 1) := by decide +kernel
theorem dX4_locateInPolygon_129 : decode prog_6_method_7_code 129 = .ok (.goto 4, 3) := by decide +kernel
theorem dX4_locateInPolygon_132 : decode prog_6_method_7_code 132 = .ok (.iconst (-1), 1) := by decide +kernel
theorem dX4_locateInPolygon_133 : decode prog_6_method_7_code 133 = .ok (.ireturn, 1) := by decide +kernel
theorem dX4_countCommon_0 : decode prog_6_method_8_code 0 = .ok (.aload_n 0, 1) := by decide +kernel
theorem dX4_countCommon_1 : decode prog_6_method_8_code 1 = .ok (.iload_n 1, 1) := by decide +kernel
theorem dX4_countCommon_2 : decode prog_6_method_8_code 2 = .ok (.aload_n 2, 1) := by decide +kernel
theorem dX4_countCommon_3 : decode prog_6_method_8_code 3 = .ok (.iload_n 3, 1) := by decide +kernel
theorem dX4_countCommon_4 : decode prog_6_method_8_code 4 = .ok (.invokestatic 65, 3) := by decide +kernel
theorem dX4_countCommon_7 : decode prog_6_method_8_code 7 = .ok (.ifCond .eq 5, 3) := by decide +kernel
theorem dX4_countCommon_10 : decode prog_6_method_8_code 10 = .ok (.iconst 0, 1) := by decide +kernel
