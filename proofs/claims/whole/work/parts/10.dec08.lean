theorem dX14_extreme_18 : decode prog_13_method_24_code 18 = .ok (.iaload, 1) := by decide +kernel
theorem dX14_extreme_19 : decode prog_13_method_24_code 19 = .ok (.istore_n 3, 1) := by decide +kernel
theorem dX14_extreme_20 : decode prog_13_method_24_code 20 = .ok (.iconst 1, 1) := by decide +kernel
theorem dX14_extreme_21 : decode prog_13_method_24_code 21 = .ok (.istore 4, 2) := by decide +kernel
theorem dX14_extreme_23 : decode prog_13_method_24_code 23 = .ok (.iload 4, 2) := by decide +kernel
theorem dX14_extreme_25 : decode prog_13_method_24_code 25 = .ok (.aload_n 0, 1) := by decide +kernel
theorem dX14_extreme_26 : decode prog_13_method_24_code 26 = .ok (.getfield 79, 3) := by decide +kernel
theorem dX14_extreme_29 : decode prog_13_method_24_code 29 = .ok (.if_icmp .ge 52, 3) := by decide +kernel
theorem dX14_extreme_32 : decode prog_13_method_24_code 32 = .ok (.iload_n 1, 1) := by decide +kernel
theorem dX14_extreme_33 : decode prog_13_method_24_code 33 = .ok (.ifCond .eq 13, 3) := by decide +kernel
theorem dX14_extreme_36 : decode prog_13_method_24_code 36 = .ok (.aload_n 0, 1) := by decide +kernel
theorem dX14_extreme_37 : decode prog_13_method_24_code 37 = .ok (.getfield 30, 3) := by decide +kernel
theorem dX14_extreme_40 : decode prog_13_method_24_code 40 = .ok (.iload 4, 2) := by decide +kernel
theorem dX14_extreme_42 : decode prog_13_method_24_code 42 = .ok (.iaload, 1) := by decide +kernel
theorem dX14_extreme_43 : decode prog_13_method_24_code 43 = .ok (.goto 10, 3) := by decide +kernel
theorem dX14_extreme_46 : decode prog_13_method_24_code 46 = .ok (.aload_n 0, 1) := by decide +kernel
theorem dX14_extreme_47 : decode prog_13_method_24_code 47 = .ok (.getfield 36, 3) := by decide +kernel
theorem dX14_extreme_50 : decode prog_13_method_24_code 50 = .ok (.iload 4, 2) := by decide +kernel
theorem dX14_extreme_52 : decode prog_13_method_24_code 52 = .ok (.iaload, 1) := by decide +kernel
theorem dX14_extreme_53 : decode prog_13_method_24_code 53 = .ok (.istore 5, 2) := by decide +kernel
theorem dX14_extreme_55 : decode prog_13_method_24_code 55 = .ok (.iload_n 2, 1) := by decide +kernel
theorem dX14_extreme_56 : decode prog_13_method_24_code 56 = .ok (.ifCond .eq 12, 3) := by decide +kernel
theorem dX14_extreme_59 : decode prog_13_method_24_code 59 = .ok (.iload_n 3, 1) := by decide +kernel
theorem dX14_extreme_60 : decode prog_13_method_24_code 60 = .ok (.iload 5, 2) := by decide +kernel
theorem dX14_extreme_62 : decode prog_13_method_24_code 62 = .ok (.invokestatic 47, 3) := by decide +kernel
theorem dX14_extreme_65 : decode prog_13_method_24_code 65 = .ok (.goto 9, 3) := by decide +kernel
theorem dX14_extreme_68 : decode prog_13_method_24_code 68 = .ok (.iload_n 3, 1) := by decide +kernel
theorem dX14_extreme_69 : decode prog_13_method_24_code 69 = .ok (.iload 5, 2) := by decide +kernel
theorem dX14_extreme_71 : decode prog_13_method_24_code 71 = .ok (.invokestatic 53, 3) := by decide +kernel
theorem dX14_extreme_74 : decode prog_13_method_24_code 74 = .ok (.istore_n 3, 1) := by decide +kernel
theorem dX14_extreme_75 : decode prog_13_method_24_code 75 = .ok (.iinc 4 1, 3) := by decide +kernel
theorem dX14_extreme_78 : decode prog_13_method_24_code 78 = .ok (.goto (-55), 3) := by decide +kernel
theorem dX14_extreme_81 : decode prog_13_method_24_code 81 = .ok (.iload_n 3, 1) := by decide +kernel
theorem dX14_extreme_82 : decode prog_13_method_24_code 82 = .ok (.ireturn, 1) := by decide +kernel
theorem dX14_areApart_0 : decode prog_13_method_25_code 0 = .ok (.aload_n 0, 1) := by decide +kernel
theorem dX14_areApart_1 : decode prog_13_method_25_code 1 = .ok (.iload_n 2, 1) := by decide +kernel
theorem dX14_areApart_2 : decode prog_13_method_25_code 2 = .ok (.iconst 0, 1) := by decide +kernel
theorem dX14_areApart_3 : decode prog_13_method_25_code 3 = .ok (.invokestatic 201, 3) := by decide +kernel
theorem dX14_areApart_6 : decode prog_13_method_25_code 6 = .ok (.aload_n 1, 1) := by decide +kernel
theorem dX14_areApart_7 : decode prog_13_method_25_code 7 = .ok (.iload_n 2, 1) := by decide +kernel
theorem dX14_areApart_8 : decode prog_13_method_25_code 8 = .ok (.iconst 1, 1) := by decide +kernel
theorem dX14_areApart_9 : decode prog_13_method_25_code 9 = .ok (.invokestatic 201, 3) := by decide +kernel
theorem dX14_areApart_12 : decode prog_13_method_25_code 12 = .ok (.if_icmp .lt 18, 3) := by decide +kernel
theorem dX14_areApart_15 : decode prog_13_method_25_code 15 = .ok (.aload_n 1, 1) := by decide +kernel
theorem dX14_areApart_16 : decode prog_13_method_25_code 16 = .ok (.iload_n 2, 1) := by decide +kernel
theorem dX14_areApart_17 : decode prog_13_method_25_code 17 = .ok (.iconst 0, 1) := by decide +kernel
theorem dX14_areApart_18 : decode prog_13_method_25_code 18 = .ok (.invokestatic 201, 3) := by decide +kernel
theorem dX14_areApart_21 : decode prog_13_method_25_code 21 = .ok (.aload_n 0, 1) := by decide +kernel
theorem dX14_areApart_22 : decode prog_13_method_25_code 22 = .ok (.iload_n 2, 1) := by decide +kernel
theorem dX14_areApart_23 : decode prog_13_method_25_code 23 = .ok (.iconst 1, 1) := by decide +kernel
theorem dX14_areApart_24 : decode prog_13_method_25_code 24 = .ok (.invokestatic 201, 3) := by decide +kernel
theorem dX14_areApart_27 : decode prog_13_method_25_code 27 = .ok (.if_icmp .ge 7, 3) := by decide +kernel
theorem dX14_areApart_30 : decode prog_13_method_25_code 30 = .ok (.iconst 1, 1) := by decide +kernel
theorem dX14_areApart_31 : decode prog_13_method_25_code 31 = .ok (.goto 4, 3) := by decide +kernel
theorem dX14_areApart_34 : decode prog_13_method_25_code 34 = .ok (.iconst 0, 1) := by decide +kernel
theorem dX14_areApart_35 : decode prog_13_method_25_code 35 = .ok (.ireturn, 1) := by decide +kernel
theorem dX14_intersect_0 : decode prog_13_method_26_code 0 = .ok (.aload_n 0, 1) := by decide +kernel
theorem dX14_intersect_1 : decode prog_13_method_26_code 1 = .ok (.aload_n 1, 1) := by decide +kernel
theorem dX14_intersect_2 : decode prog_13_method_26_code 2 = .ok (.iconst 1, 1) := by decide +kernel
theorem dX14_intersect_3 : decode prog_13_method_26_code 3 = .ok (.invokestatic 205, 3) := by decide +kernel
theorem dX14_intersect_6 : decode prog_13_method_26_code 6 = .ok (.ifCond .ne 12, 3) := by decide +kernel
theorem dX14_intersect_9 : decode prog_13_method_26_code 9 = .ok (.aload_n 0, 1) := by decide +kernel
theorem dX14_intersect_10 : decode prog_13_method_26_code 10 = .ok (.aload_n 1, 1) := by decide +kernel
theorem dX14_intersect_11 : decode prog_13_method_26_code 11 = .ok (.iconst 0, 1) := by decide +kernel
theorem dX14_intersect_12 : decode prog_13_method_26_code 12 = .ok (.invokestatic 205, 3) := by decide +kernel
theorem dX14_intersect_15 : decode prog_13_method_26_code 15 = .ok (.ifCond .eq 5, 3) := by decide +kernel
theorem dX14_intersect_18 : decode prog_13_method_26_code 18 = .ok (.iconst 0, 1) := by decide +kernel
theorem dX14_intersect_19 : decode prog_13_method_26_code 19 = .ok (.ireturn, 1) := by decide +kernel
theorem dX14_intersect_20 : decode prog_13_method_26_code 20 = .ok (.aload_n 1, 1) := by decide +kernel
theorem dX14_intersect_21 : decode prog_13_method_26_code 21 = .ok (.aload_n 0, 1) := by decide +kernel
theorem dX14_intersect_22 : decode prog_13_method_26_code 22 = .ok (.getfield 30, 3) := by decide +kernel
theorem dX14_intersect_25 : decode prog_13_method_26_code 25 = .ok (.iconst 0, 1) := by decide +kernel
theorem dX14_intersect_26 : decode prog_13_method_26_code 26 = .ok (.iaload, 1) := by decide +kernel
theorem dX14_intersect_27 : decode prog_13_method_26_code 27 = .ok (.aload_n 0, 1) := by decide +kernel
theorem dX14_intersect_28 : decode prog_13_method_26_code 28 = .ok (.getfield 36, 3) := by decide +kernel
theorem dX14_intersect_31 : decode prog_13_method_26_code 31 = .ok (.iconst 0, 1) := by decide +kernel
theorem dX14_intersect_32 : decode prog_13_method_26_code 32 = .ok (.iaload, 1) := by decide +kernel
theorem dX14_intersect_33 : decode prog_13_method_26_code 33 = .ok (.invokestatic 197, 3) := by decide +kernel
theorem dX14_intersect_36 : decode prog_13_method_26_code 36 = .ok (.ifCond .ge 22, 3) := by decide +kernel
theorem dX14_intersect_39 : decode prog_13_method_26_code 39 = .ok (.aload_n 0, 1) := by decide +kernel
theorem dX14_intersect_40 : decode prog_13_method_26_code 40 = .ok (.aload_n 1, 1) := by decide +kernel
theorem dX14_intersect_41 : decode prog_13_method_26_code 41 = .ok (.getfield 30, 3) := by decide +kernel
theorem dX14_intersect_44 : decode prog_13_method_26_code 44 = .ok (.iconst 0, 1) := by decide +kernel
theorem dX14_intersect_45 : decode prog_13_method_26_code 45 = .ok (.iaload, 1) := by decide +kernel
theorem dX14_intersect_46 : decode prog_13_method_26_code 46 = .ok (.aload_n 1, 1) := by decide +kernel
theorem dX14_intersect_47 : decode prog_13_method_26_code 47 = .ok (.getfield 36, 3) := by decide +kernel
theorem dX14_intersect_50 : decode prog_13_method_26_code 50 = .ok (.iconst 0, 1) := by decide +kernel
theorem dX14_intersect_51 : decode prog_13_method_26_code 51 = .ok (.iaload, 1) := by decide +kernel
theorem dX14_intersect_52 : decode prog_13_method_26_code 52 = .ok (.invokestatic 197, 3) := by decide +kernel
theorem dX14_intersect_55 : decode prog_13_method_26_code 55 = .ok (.ifCond .lt 5, 3) := by decide +kernel
theorem dX14_intersect_58 : decode prog_13_method_26_code 58 = .ok (.iconst 1, 1) := by decide +kernel
theorem dX14_intersect_59 : decode prog_13_method_26_code 59 = .ok (.ireturn, 1) := by decide +kernel
theorem dX14_intersect_60 : decode prog_13_method_26_code 60 = .ok (.iconst 0, 1) := by decide +kernel
theorem dX14_intersect_61 : decode prog_13_method_26_code 61 = .ok (.istore_n 2, 1) := by decide +kernel
theorem dX14_intersect_62 : decode prog_13_method_26_code 62 = .ok (.iload_n 2, 1) := by decide +kernel
theorem dX14_intersect_63 : decode prog_13_method_26_code 63 = .ok (.iconst 1, 1) := by decide +kernel
theorem dX14_intersect_64 : decode prog_13_method_26_code 64 = .ok (.iadd, 1) := by decide +kernel
theorem dX14_intersect_65 : decode prog_13_method_26_code 65 = .ok (.aload_n 0, 1) := by decide +kernel
theorem dX14_intersect_66 : decode prog_13_method_26_code 66 = .ok (.getfield 79, 3) := by decide +kernel
theorem dX14_intersect_69 : decode prog_13_method_26_code 69 = .ok (.if_icmp .ge 55, 3) := by decide +kernel
theorem dX14_intersect_72 : decode prog_13_method_26_code 72 = .ok (.iconst 0, 1) := by decide +kernel
theorem dX14_intersect_73 : decode prog_13_method_26_code 73 = .ok (.istore_n 3, 1) := by decide +kernel
theorem dX14_intersect_74 : decode prog_13_method_26_code 74 = .ok (.iload_n 3, 1) := by decide +kernel
theorem dX14_intersect_75 : decode prog_13_method_26_code 75 = .ok (.iconst 1, 1) := by decide +kernel
theorem dX14_intersect_76 : decode prog_13_method_26_code 76 = .ok (.iadd, 1) := by decide +kernel
theorem dX14_intersect_77 : decode prog_13_method_26_code 77 = .ok (.aload_n 1, 1) := by decide +kernel
theorem dX14_intersect_78 : decode prog_13_method_26_code 78 = .ok (.getfield 79, 3) := by decide +kernel
theorem dX14_intersect_81 : decode prog_13_method_26_code 81 = .ok (.if_icmp .ge 37, 3) := by decide +kernel
theorem dX14_intersect_84 : decode prog_13_method_26_code 84 = .ok (.aload_n 0, 1) := by decide +kernel
theorem dX14_intersect_85 : decode prog_13_method_26_code 85 = .ok (.iload_n 2, 1) := by decide +kernel
theorem dX14_intersect_86 : decode prog_13_method_26_code 86 = .ok (.invokevirtual 82, 3) := by decide +kernel
theorem dX14_intersect_89 : decode prog_13_method_26_code 89 = .ok (.ifCond .eq 29, 3) := by decide +kernel
theorem dX14_intersect_92 : decode prog_13_method_26_code 92 = .ok (.aload_n 1, 1) := by decide +kernel
theorem dX14_intersect_93 : decode prog_13_method_26_code 93 = .ok (.iload_n 3, 1) := by decide +kernel
theorem dX14_intersect_94 : decode prog_13_method_26_code 94 = .ok (.invokevirtual 82, 3) := by decide +kernel
theorem dX14_intersect_97 : decode prog_13_method_26_code 97 = .ok (.ifCond .eq 15, 3) := by decide +kernel
theorem dX14_intersect_100 : decode prog_13_method_26_code 100 = .ok (.aload_n 0, 1) := by decide +kernel
theorem dX14_intersect_101 : decode prog_13_method_26_code 101 = .ok (.iload_n 2, 1) := by decide +kernel
theorem dX14_intersect_102 : decode prog_13_method_26_code 102 = .ok (.aload_n 1, 1) := by decide +kernel
theorem dX14_intersect_103 : decode prog_13_method_26_code 103 = .ok (.iload_n 3, 1) := by decide +kernel
theorem dX14_intersect_104 : decode prog_13_method_26_code 104 = .ok (.invokestatic 209, 3) := by decide +kernel
theorem dX14_intersect_107 : decode prog_13_method_26_code 107 = .ok (.ifCond .eq 5, 3) := by decide +kernel
theorem dX14_intersect_110 : decode prog_13_method_26_code 110 = .ok (.iconst 1, 1) := by decide +kernel
theorem dX14_intersect_111 : decode prog_13_method_26_code 111 = .ok (.ireturn, 1) := by decide +kernel
theorem dX14_intersect_112 : decode prog_13_method_26_code 112 = .ok (.iinc 3 1, 3) := by decide +kernel
theorem dX14_intersect_115 : decode prog_13_method_26_code 115 = .ok (.goto (-41), 3) := by decide +kernel
theorem dX14_intersect_118 : decode prog_13_method_26_code 118 = .ok (.iinc 2 1, 3) := by decide +kernel
theorem dX14_intersect_121 : decode prog_13_method_26_code 121 = .ok (.goto (-59), 3) := by decide +kernel
theorem dX14_intersect_124 : decode prog_13_method_26_code 124 = .ok (.iconst 0, 1) := by decide +kernel
theorem dX14_intersect_125 : decode prog_13_method_26_code 125 = .ok (.ireturn, 1) := by decide +kernel
theorem dX14_overlap_0 : decode prog_13_method_27_code 0 = .ok (.aload_n 1, 1) := by decide +kernel
theorem dX14_overlap_1 : decode prog_13_method_27_code 1 = .ok (.aload_n 2, 1) := by decide +kernel
theorem dX14_overlap_2 : decode prog_13_method_27_code 2 = .ok (.invokestatic 213, 3) := by decide +kernel
theorem dX14_overlap_5 : decode prog_13_method_27_code 5 = .ok (.ifCond .ne 5, 3) := by decide +kernel
theorem dX14_overlap_8 : decode prog_13_method_27_code 8 = .ok (.iconst 0, 1) := by decide +kernel
theorem dX14_overlap_9 : decode prog_13_method_27_code 9 = .ok (.ireturn, 1) := by decide +kernel
theorem dX14_overlap_10 : decode prog_13_method_27_code 10 = .ok (.aload_n 1, 1) := by decide +kernel
theorem dX14_overlap_11 : decode prog_13_method_27_code 11 = .ok (.getfield 75, 3) := by decide +kernel
theorem dX14_overlap_14 : decode prog_13_method_27_code 14 = .ok (.ifCond .ne 29, 3) := by decide +kernel
theorem dX14_overlap_17 : decode prog_13_method_27_code 17 = .ok (.aload_n 2, 1) := by decide +kernel
theorem dX14_overlap_18 : decode prog_13_method_27_code 18 = .ok (.aload_n 1, 1) := by decide +kernel
theorem dX14_overlap_19 : decode prog_13_method_27_code 19 = .ok (.getfield 30, 3) := by decide +kernel
theorem dX14_overlap_22 : decode prog_13_method_27_code 22 = .ok (.iconst 0, 1) := by decide +kernel
theorem dX14_overlap_23 : decode prog_13_method_27_code 23 = .ok (.iaload, 1) := by decide +kernel
theorem dX14_overlap_24 : decode prog_13_method_27_code 24 = .ok (.aload_n 1, 1) := by decide +kernel
theorem dX14_overlap_25 : decode prog_13_method_27_code 25 = .ok (.getfield 36, 3) := by decide +kernel
theorem dX14_overlap_28 : decode prog_13_method_27_code 28 = .ok (.iconst 0, 1) := by decide +kernel
theorem dX14_overlap_29 : decode prog_13_method_27_code 29 = .ok (.iaload, 1) := by decide +kernel
theorem dX14_overlap_30 : decode prog_13_method_27_code 30 = .ok (.invokestatic 197, 3) := by decide +kernel
theorem dX14_overlap_33 : decode prog_13_method_27_code 33 = .ok (.iconst 1, 1) := by decide +kernel
theorem dX14_overlap_34 : decode prog_13_method_27_code 34 = .ok (.if_icmp .ne 7, 3) := by decide +kernel
theorem dX14_overlap_37 : decode prog_13_method_27_code 37 = .ok (.iconst 1, 1) := by decide +kernel
theorem dX14_overlap_38 : decode prog_13_method_27_code 38 = .ok (.goto 4, 3) := by decide +kernel
theorem dX14_overlap_41 : decode prog_13_method_27_code 41 = .ok (.iconst 0, 1) := by decide +kernel
theorem dX14_overlap_42 : decode prog_13_method_27_code 42 = .ok (.ireturn, 1) := by decide +kernel
theorem dX14_overlap_43 : decode prog_13_method_27_code 43 = .ok (.aload_n 2, 1) := by decide +kernel
theorem dX14_overlap_44 : decode prog_13_method_27_code 44 = .ok (.getfield 75, 3) := by decide +kernel
theorem dX14_overlap_47 : decode prog_13_method_27_code 47 = .ok (.ifCond .ne 29, 3) := by decide +kernel
theorem dX14_overlap_50 : decode prog_13_method_27_code 50 = .ok (.aload_n 1, 1) := by decide +kernel
theorem dX14_overlap_51 : decode prog_13_method_27_code 51 = .ok (.aload_n 2, 1) := by decide +kernel
theorem dX14_overlap_52 : decode prog_13_method_27_code 52 = .ok (.getfield 30, 3) := by decide +kernel
theorem dX14_overlap_55 : decode prog_13_method_27_code 55 = .ok (.iconst 0, 1) := by decide +kernel
theorem dX14_overlap_56 : decode prog_13_method_27_code 56 = .ok (.iaload, 1) := by decide +kernel
theorem dX14_overlap_57 : decode prog_13_method_27_code 57 = .ok (.aload_n 2, 1) := by decide +kernel
theorem dX14_overlap_58 : decode prog_13_method_27_code 58 = .ok (.getfield 36, 3) := by decide +kernel
theorem dX14_overlap_61 : decode prog_13_method_27_code 61 = .ok (.iconst 0, 1) := by decide +kernel
theorem dX14_overlap_62 : decode prog_13_method_27_code 62 = .ok (.iaload, 1) := by decide +kernel
theorem dX14_overlap_63 : decode prog_13_method_27_code 63 = .ok (.invokestatic 197, 3) := by decide +kernel
theorem dX14_overlap_66 : decode prog_13_method_27_code 66 = .ok (.iconst 1, 1) := by decide +kernel
theorem dX14_overlap_67 : decode prog_13_method_27_code 67 = .ok (.if_icmp .ne 7, 3) := by decide +kernel
theorem dX14_overlap_70 : decode prog_13_method_27_code 70 = .ok (.iconst 1, 1) := by decide +kernel
theorem dX14_overlap_71 : decode prog_13_method_27_code 71 = .ok (.goto 4, 3) := by decide +kernel
theorem dX14_overlap_74 : decode prog_13_method_27_code 74 = .ok (.iconst 0, 1) := by decide +kernel
theorem dX14_overlap_75 : decode prog_13_method_27_code 75 = .ok (.ireturn, 1) := by decide +kernel
theorem dX14_overlap_76 : decode prog_13_method_27_code 76 = .ok (.aload_n 2, 1) := by decide +kernel
theorem dX14_overlap_77 : decode prog_13_method_27_code 77 = .ok (.getfield 75, 3) := by decide +kernel
theorem dX14_overlap_80 : decode prog_13_method_27_code 80 = .ok (.iconst 1, 1) := by decide +kernel
theorem dX14_overlap_81 : decode prog_13_method_27_code 81 = .ok (.if_icmp .ne 46, 3) := by decide +kernel
theorem dX14_overlap_84 : decode prog_13_method_27_code 84 = .ok (.aload_n 1, 1) := by decide +kernel
theorem dX14_overlap_85 : decode prog_13_method_27_code 85 = .ok (.getfield 75, 3) := by decide +kernel
theorem dX14_overlap_88 : decode prog_13_method_27_code 88 = .ok (.iconst 2, 1) := by decide +kernel
theorem dX14_overlap_89 : decode prog_13_method_27_code 89 = .ok (.if_icmp .ne 10, 3) := by decide +kernel
theorem dX14_overlap_92 : decode prog_13_method_27_code 92 = .ok (.aload_n 0, 1) := by decide +kernel
theorem dX14_overlap_93 : decode prog_13_method_27_code 93 = .ok (.aload_n 2, 1) := by decide +kernel
theorem dX14_overlap_94 : decode prog_13_method_27_code 94 = .ok (.aload_n 1, 1) := by decide +kernel
theorem dX14_overlap_95 : decode prog_13_method_27_code 95 = .ok (.invokevirtual 217, 3) := by decide +kernel
theorem dX14_overlap_98 : decode prog_13_method_27_code 98 = .ok (.ireturn, 1) := by decide +kernel
theorem dX14_overlap_99 : decode prog_13_method_27_code 99 = .ok (.aload_n 0, 1) := by decide +kernel
theorem dX14_overlap_100 : decode prog_13_method_27_code 100 = .ok (.aload_n 1, 1) := by decide +kernel
theorem dX14_overlap_101 : decode prog_13_method_27_code 101 = .ok (.aload_n 2, 1) := by decide +kernel
theorem dX14_overlap_102 : decode prog_13_method_27_code 102 = .ok (.invokevirtual 220, 3) := by decide +kernel
theorem dX14_overlap_105 : decode prog_13_method_27_code 105 = .ok (.aload_n 0, 1) := by decide +kernel
theorem dX14_overlap_106 : decode prog_13_method_27_code 106 = .ok (.getfield 168, 3) := by decide +kernel
theorem dX14_overlap_109 : decode prog_13_method_27_code 109 = .ok (.ifCond .ne 12, 3) := by decide +kernel
theorem dX14_overlap_112 : decode prog_13_method_27_code 112 = .ok (.aload_n 0, 1) := by decide +kernel
theorem dX14_overlap_113 : decode prog_13_method_27_code 113 = .ok (.aload_n 1, 1) := by decide +kernel
theorem dX14_overlap_114 : decode prog_13_method_27_code 114 = .ok (.aload_n 2, 1) := by decide +kernel
theorem dX14_overlap_115 : decode prog_13_method_27_code 115 = .ok (.invokevirtual 224, 3) := by decide +kernel
theorem dX14_overlap_118 : decode prog_13_method_27_code 118 = .ok (.ifCond .eq 7, 3) := by decide +kernel
theorem dX14_overlap_121 : decode prog_13_method_27_code 121 = .ok (.iconst 1, 1) := by decide +kernel
theorem dX14_overlap_122 : decode prog_13_method_27_code 122 = .ok (.goto 4, 3) := by decide +kernel
theorem dX14_overlap_125 : decode prog_13_method_27_code 125 = .ok (.iconst 0, 1) := by decide +kernel
theorem dX14_overlap_126 : decode prog_13_method_27_code 126 = .ok (.ireturn, 1) := by decide +kernel
theorem dX14_overlap_127 : decode prog_13_method_27_code 127 = .ok (.aload_n 0, 1) := by decide +kernel
theorem dX14_overlap_128 : decode prog_13_method_27_code 128 = .ok (.aload_n 1, 1) := by decide +kernel
theorem dX14_overlap_129 : decode prog_13_method_27_code 129 = .ok (.aload_n 2, 1) := by decide +kernel
theorem dX14_overlap_130 : decode prog_13_method_27_code 130 = .ok (.invokevirtual 220, 3) := by decide +kernel
theorem dX14_overlap_133 : decode prog_13_method_27_code 133 = .ok (.aload_n 0, 1) := by decide +kernel
theorem dX14_overlap_134 : decode prog_13_method_27_code 134 = .ok (.getfield 168, 3) := by decide +kernel
theorem dX14_overlap_137 : decode prog_13_method_27_code 137 = .ok (.ifCond .ne 18, 3) := by decide +kernel
theorem dX14_overlap_140 : decode prog_13_method_27_code 140 = .ok (.aload_n 1, 1) := by decide +kernel
theorem dX14_overlap_141 : decode prog_13_method_27_code 141 = .ok (.getfield 75, 3) := by decide +kernel
theorem dX14_overlap_144 : decode prog_13_method_27_code 144 = .ok (.iconst 2, 1) := by decide +kernel
theorem dX14_overlap_145 : decode prog_13_method_27_code 145 = .ok (.if_icmp .ne 12, 3) := by decide +kernel
theorem dX14_overlap_148 : decode prog_13_method_27_code 148 = .ok (.aload_n 0, 1) := by decide +kernel
theorem dX14_overlap_149 : decode prog_13_method_27_code 149 = .ok (.getfield 177, 3) := by decide +kernel
theorem dX14_overlap_152 : decode prog_13_method_27_code 152 = .ok (.ifCond .eq 5, 3) := by decide +kernel
theorem dX14_overlap_155 : decode prog_13_method_27_code 155 = .ok (.iconst 1, 1) := by decide +kernel
theorem dX14_overlap_156 : decode prog_13_method_27_code 156 = .ok (.ireturn, 1) := by decide +kernel
theorem dX14_overlap_157 : decode prog_13_method_27_code 157 = .ok (.aload_n 1, 1) := by decide +kernel
theorem dX14_overlap_158 : decode prog_13_method_27_code 158 = .ok (.getfield 75, 3) := by decide +kernel
theorem dX14_overlap_161 : decode prog_13_method_27_code 161 = .ok (.iconst 1, 1) := by decide +kernel
theorem dX14_overlap_162 : decode prog_13_method_27_code 162 = .ok (.if_icmp .ne 5, 3) := by decide +kernel
theorem dX14_overlap_165 : decode prog_13_method_27_code 165 = .ok (.iconst 0, 1) := by decide +kernel
theorem dX14_overlap_166 : decode prog_13_method_27_code 166 = .ok (.ireturn, 1) := by decide +kernel
theorem dX14_overlap_167 : decode prog_13_method_27_code 167 = .ok (.aload_n 0, 1) := by decide +kernel
theorem dX14_overlap_168 : decode prog_13_method_27_code 168 = .ok (.aload_n 2, 1) := by decide +kernel
theorem dX14_overlap_169 : decode prog_13_method_27_code 169 = .ok (.aload_n 1, 1) := by decide +kernel
theorem dX14_overlap_170 : decode prog_13_method_27_code 170 = .ok (.invokevirtual 220, 3) := by decide +kernel
theorem dX14_overlap_173 : decode prog_13_method_27_code 173 = .ok (.aload_n 0, 1) := by decide +kernel
theorem dX14_overlap_174 : decode prog_13_method_27_code 174 = .ok (.getfield 168, 3) := by decide +kernel
theorem dX14_overlap_177 : decode prog_13_method_27_code 177 = .ok (.ireturn, 1) := by decide +kernel
theorem dX14_crossInside_0 : decode prog_13_method_28_code 0 = .ok (.iconst 0, 1) := by decide +kernel
theorem dX14_crossInside_1 : decode prog_13_method_28_code 1 = .ok (.istore_n 3, 1) := by decide +kernel
theorem dX14_crossInside_2 : decode prog_13_method_28_code 2 = .ok (.iload_n 3, 1) := by decide +kernel
theorem dX14_crossInside_3 : decode prog_13_method_28_code 3 = .ok (.iconst 1, 1) := by decide +kernel
theorem dX14_crossInside_4 : decode prog_13_method_28_code 4 = .ok (.iadd, 1) := by decide +kernel
theorem dX14_crossInside_5 : decode prog_13_method_28_code 5 = .ok (.aload_n 1, 1) := by decide +kernel
theorem dX14_crossInside_6 : decode prog_13_method_28_code 6 = .ok (.getfield 79, 3) := by decide +kernel
theorem dX14_crossInside_9 : decode prog_13_method_28_code 9 = .ok (.if_icmp .ge 140, 3) := by decide +kernel
theorem dX14_crossInside_12 : decode prog_13_method_28_code 12 = .ok (.iconst 0, 1) := by decide +kernel
theorem dX14_crossInside_13 : decode prog_13_method_28_code 13 = .ok (.istore 4, 2) := by decide +kernel
theorem dX14_crossInside_15 : decode prog_13_method_28_code 15 = .ok (.iload 4, 2) := by decide +kernel
theorem dX14_crossInside_17 : decode prog_13_method_28_code 17 = .ok (.iconst 1, 1) := by decide +kernel
theorem dX14_crossInside_18 : decode prog_13_method_28_code 18 = .ok (.iadd, 1) := by decide +kernel
theorem dX14_crossInside_19 : decode prog_13_method_28_code 19 = .ok (.aload_n 2, 1) := by decide +kernel
theorem dX14_crossInside_20 : decode prog_13_method_28_code 20 = .ok (.getfield 79, 3) := by decide +kernel
theorem dX14_crossInside_23 : decode prog_13_method_28_code 23 = .ok (.if_icmp .ge 120, 3) := by decide +kernel
theorem dX14_crossInside_26 : decode prog_13_method_28_code 26 = .ok (.aload_n 1, 1) := by decide +kernel
theorem dX14_crossInside_27 : decode prog_13_method_28_code 27 = .ok (.iload_n 3, 1) := by decide +kernel
theorem dX14_crossInside_28 : decode prog_13_method_28_code 28 = .ok (.aload_n 2, 1) := by decide +kernel
theorem dX14_crossInside_29 : decode prog_13_method_28_code 29 = .ok (.iload 4, 2) := by decide +kernel
theorem dX14_crossInside_31 : decode prog_13_method_28_code 31 = .ok (.invokestatic 209, 3) := by decide +kernel
theorem dX14_crossInside_34 : decode prog_13_method_28_code 34 = .ok (.ifCond .ne 6, 3) := by decide +kernel
theorem dX14_crossInside_37 : decode prog_13_method_28_code 37 = .ok (.goto 100, 3) := by decide +kernel
theorem dX14_crossInside_40 : decode prog_13_method_28_code 40 = .ok (.aload_n 0, 1) := by decide +kernel
theorem dX14_crossInside_41 : decode prog_13_method_28_code 41 = .ok (.aload_n 1, 1) := by decide +kernel
theorem dX14_crossInside_42 : decode prog_13_method_28_code 42 = .ok (.iload_n 3, 1) := by decide +kernel
theorem dX14_crossInside_43 : decode prog_13_method_28_code 43 = .ok (.aload_n 2, 1) := by decide +kernel
theorem dX14_crossInside_44 : decode prog_13_method_28_code 44 = .ok (.iload 4, 2) := by decide +kernel
theorem dX14_crossInside_46 : decode prog_13_method_28_code 46 = .ok (.invokevirtual 144, 3) := by decide +kernel
theorem dX14_crossInside_49 : decode prog_13_method_28_code 49 = .ok (.aload_n 0, 1) := by decide +kernel
theorem dX14_crossInside_50 : decode prog_13_method_28_code 50 = .ok (.getfield 102, 3) := by decide +kernel
theorem dX14_crossInside_53 : decode prog_13_method_28_code 53 = .ok (.ifCond .eq 29, 3) := by decide +kernel
theorem dX14_crossInside_56 : decode prog_13_method_28_code 56 = .ok (.aload_n 1, 1) := by decide +kernel
theorem dX14_crossInside_57 : decode prog_13_method_28_code 57 = .ok (.aload_n 1, 1) := by decide +kernel
theorem dX14_crossInside_58 : decode prog_13_method_28_code 58 = .ok (.iload_n 3, 1) := by decide +kernel
theorem dX14_crossInside_59 : decode prog_13_method_28_code 59 = .ok (.aload_n 2, 1) := by decide +kernel
theorem dX14_crossInside_60 : decode prog_13_method_28_code 60 = .ok (.iload 4, 2) := by decide +kernel
theorem dX14_crossInside_62 : decode prog_13_method_28_code 62 = .ok (.invokestatic 227, 3) := by decide +kernel
theorem dX14_crossInside_65 : decode prog_13_method_28_code 65 = .ok (.ifCond .ne 17, 3) := by decide +kernel
theorem dX14_crossInside_68 : decode prog_13_method_28_code 68 = .ok (.aload_n 2, 1) := by decide +kernel
theorem dX14_crossInside_69 : decode prog_13_method_28_code 69 = .ok (.aload_n 1, 1) := by decide +kernel
theorem dX14_crossInside_70 : decode prog_13_method_28_code 70 = .ok (.iload_n 3, 1) := by decide +kernel
theorem dX14_crossInside_71 : decode prog_13_method_28_code 71 = .ok (.aload_n 2, 1) := by decide +kernel
theorem dX14_crossInside_72 : decode prog_13_method_28_code 72 = .ok (.iload 4, 2) := by decide +kernel
theorem dX14_crossInside_74 : decode prog_13_method_28_code 74 = .ok (.invokestatic 227, 3) := by decide +kernel
theorem dX14_crossInside_77 : decode prog_13_method_28_code 77 = .ok (.ifCond .ne 5, 3) := by decide +kernel
theorem dX14_crossInside_80 : decode prog_13_method_28_code 80 = .ok (.iconst 1, 1) := by decide +kernel
theorem dX14_crossInside_81 : decode prog_13_method_28_code 81 = .ok (.ireturn, 1) := by decide +kernel
theorem dX14_crossInside_82 : decode prog_13_method_28_code 82 = .ok (.aload_n 0, 1) := by decide +kernel
theorem dX14_crossInside_83 : decode prog_13_method_28_code 83 = .ok (.getfield 98, 3) := by decide +kernel
theorem dX14_crossInside_86 : decode prog_13_method_28_code 86 = .ok (.ifCond .eq 51, 3) := by decide +kernel
theorem dX14_crossInside_89 : decode prog_13_method_28_code 89 = .ok (.aload_n 1, 1) := by decide +kernel
theorem dX14_crossInside_90 : decode prog_13_method_28_code 90 = .ok (.aload_n 2, 1) := by decide +kernel
theorem dX14_crossInside_91 : decode prog_13_method_28_code 91 = .ok (.aload_n 1, 1) := by decide +kernel
theorem dX14_crossInside_92 : decode prog_13_method_28_code 92 = .ok (.iload_n 3, 1) := by decide +kernel
theorem dX14_crossInside_93 : decode prog_13_method_28_code 93 = .ok (.invokestatic 231, 3) := by decide +kernel
theorem dX14_crossInside_96 : decode prog_13_method_28_code 96 = .ok (.ifCond .ne 39, 3) := by decide +kernel
theorem dX14_crossInside_99 : decode prog_13_method_28_code 99 = .ok (.aload_n 1, 1) := by decide +kernel
theorem dX14_crossInside_100 : decode prog_13_method_28_code 100 = .ok (.aload_n 2, 1) := by decide +kernel
theorem dX14_crossInside_101 : decode prog_13_method_28_code 101 = .ok (.aload_n 1, 1) := by decide +kernel
theorem dX14_crossInside_102 : decode prog_13_method_28_code 102 = .ok (.iload_n 3, 1) := by decide +kernel
theorem dX14_crossInside_103 : decode prog_13_method_28_code 103 = .ok (.iconst 1, 1) := by decide +kernel
theorem dX14_crossInside_104 : decode prog_13_method_28_code 104 = .ok (.iadd, 1) := by decide +kernel
theorem dX14_crossInside_105 : decode prog_13_method_28_code 105 = .ok (.invokestatic 231, 3) := by decide +kernel
theorem dX14_crossInside_108 : decode prog_13_method_28_code 108 = .ok (.ifCond .ne 27, 3) := by decide +kernel
theorem dX14_crossInside_111 : decode prog_13_method_28_code 111 = .ok (.aload_n 1, 1) := by decide +kernel
theorem dX14_crossInside_112 : decode prog_13_method_28_code 112 = .ok (.aload_n 2, 1) := by decide +kernel
theorem dX14_crossInside_113 : decode prog_13_method_28_code 113 = .ok (.aload_n 2, 1) := by decide +kernel
theorem dX14_crossInside_114 : decode prog_13_method_28_code 114 = .ok (.iload 4, 2) := by decide +kernel
theorem dX14_crossInside_116 : decode prog_13_method_28_code 116 = .ok (.invokestatic 231, 3) := by decide +kernel
theorem dX14_crossInside_119 : decode prog_13_method_28_code 119 = .ok (.ifCond .ne 16, 3) := by decide +kernel
theorem dX14_crossInside_122 : decode prog_13_method_28_code 122 = .ok (.aload_n 1, 1) := by decide +kernel
theorem dX14_crossInside_123 : decode prog_13_method_28_code 123 = .ok (.aload_n 2, 1) := by decide +kernel
theorem dX14_crossInside_124 : decode prog_13_method_28_code 124 = .ok (.aload_n 2, 1) := by decide +kernel
theorem dX14_crossInside_125 : decode prog_13_method_28_code 125 = .ok (.iload 4, 2) := by decide +kernel
theorem dX14_crossInside_127 : decode prog_13_method_28_code 127 = .ok (.iconst 1, 1) := by decide +kernel
theorem dX14_crossInside_128 : decode prog_13_method_28_code 128 = .ok (.iadd, 1) := by decide +kernel
theorem dX14_crossInside_129 : decode prog_13_method_28_code 129 = .ok (.invokestatic 231, 3) := by decide +kernel
theorem dX14_crossInside_132 : decode prog_13_method_28_code 132 = .ok (.ifCond .eq 5, 3) := by decide +kernel
theorem dX14_crossInside_135 : decode prog_13_method_28_code 135 = .ok (.iconst 1, 1) := by decide +kernel
theorem dX14_crossInside_136 : decode prog_13_method_28_code 136 = .ok (.ireturn, 1) := by decide +kernel
theorem dX14_crossInside_137 : decode prog_13_method_28_code 137 = .ok (.iinc 4 1, 3) := by decide +kernel
theorem dX14_crossInside_140 : decode prog_13_method_28_code 140 = .ok (.goto (-125), 3) := by decide +kernel
theorem dX14_crossInside_143 : decode prog_13_method_28_code 143 = .ok (.iinc 3 1, 3) := by decide +kernel
theorem dX14_crossInside_146 : decode prog_13_method_28_code 146 = .ok (.goto (-144), 3) := by decide +kernel
theorem dX14_crossInside_149 : decode prog_13_method_28_code 149 = .ok (.iconst 0, 1) := by decide +kernel
theorem dX14_crossInside_150 : decode prog_13_method_28_code 150 = .ok (.ireturn, 1) := by decide +kernel
theorem dX14_isEndAt_0 : decode prog_13_method_29_code 0 = .ok (.aload_n 0, 1) := by decide +kernel
theorem dX14_isEndAt_1 : decode prog_13_method_29_code 1 = .ok (.getfield 79, 3) := by decide +kernel
theorem dX14_isEndAt_4 : decode prog_13_method_29_code 4 = .ok (.iconst 1, 1) := by decide +kernel
theorem dX14_isEndAt_5 : decode prog_13_method_29_code 5 = .ok (.isub, 1) := by decide +kernel
theorem dX14_isEndAt_6 : decode prog_13_method_29_code 6 = .ok (.istore 5, 2) := by decide +kernel
theorem dX14_isEndAt_8 : decode prog_13_method_29_code 8 = .ok (.aload_n 0, 1) := by decide +kernel
theorem dX14_isEndAt_9 : decode prog_13_method_29_code 9 = .ok (.invokevirtual 86, 3) := by decide +kernel
theorem dX14_isEndAt_12 : decode prog_13_method_29_code 12 = .ok (.ifCond .ne 5, 3) := by decide +kernel
theorem dX14_isEndAt_15 : decode prog_13_method_29_code 15 = .ok (.iconst 0, 1) := by decide +kernel
theorem dX14_isEndAt_16 : decode prog_13_method_29_code 16 = .ok (.ireturn, 1) := by decide +kernel
theorem dX14_isEndAt_17 : decode prog_13_method_29_code 17 = .ok (.aload_n 1, 1) := by decide +kernel
theorem dX14_isEndAt_18 : decode prog_13_method_29_code 18 = .ok (.iload_n 2, 1) := by decide +kernel
theorem dX14_isEndAt_19 : decode prog_13_method_29_code 19 = .ok (.aload_n 0, 1) := by decide +kernel
theorem dX14_isEndAt_20 : decode prog_13_method_29_code 20 = .ok (.getfield 30, 3) := by decide +kernel
theorem dX14_isEndAt_23 : decode prog_13_method_29_code 23 = .ok (.iconst 0, 1) := by decide +kernel
theorem dX14_isEndAt_24 : decode prog_13_method_29_code 24 = .ok (.iaload, 1) := by decide +kernel
theorem dX14_isEndAt_25 : decode prog_13_method_29_code 25 = .ok (.aload_n 0, 1) := by decide +kernel
theorem dX14_isEndAt_26 : decode prog_13_method_29_code 26 = .ok (.getfield 36, 3) := by decide +kernel
theorem dX14_isEndAt_29 : decode prog_13_method_29_code 29 = .ok (.iconst 0, 1) := by decide +kernel
theorem dX14_isEndAt_30 : decode prog_13_method_29_code 30 = .ok (.iaload, 1) := by decide +kernel
theorem dX14_isEndAt_31 : decode prog_13_method_29_code 31 = .ok (.invokestatic 71, 3) := by decide +kernel
theorem dX14_isEndAt_34 : decode prog_13_method_29_code 34 = .ok (.ifCond .eq 24, 3) := by decide +kernel
theorem dX14_isEndAt_37 : decode prog_13_method_29_code 37 = .ok (.aload_n 3, 1) := by decide +kernel
theorem dX14_isEndAt_38 : decode prog_13_method_29_code 38 = .ok (.iload 4, 2) := by decide +kernel
theorem dX14_isEndAt_40 : decode prog_13_method_29_code 40 = .ok (.aload_n 0, 1) := by decide +kernel
theorem dX14_isEndAt_41 : decode prog_13_method_29_code 41 = .ok (.getfield 30, 3) := by decide +kernel
theorem dX14_isEndAt_44 : decode prog_13_method_29_code 44 = .ok (.iconst 0, 1) := by decide +kernel
theorem dX14_isEndAt_45 : decode prog_13_method_29_code 45 = .ok (.iaload, 1) := by decide +kernel
theorem dX14_isEndAt_46 : decode prog_13_method_29_code 46 = .ok (.aload_n 0, 1) := by decide +kernel
theorem dX14_isEndAt_47 : decode prog_13_method_29_code 47 = .ok (.getfield 36, 3) := by decide +kernel
theorem dX14_isEndAt_50 : decode prog_13_method_29_code 50 = .ok (.iconst 0, 1) := by decide +kernel
theorem dX14_isEndAt_51 : decode prog_13_method_29_code 51 = .ok (.iaload, 1) := by decide +kernel
theorem dX14_isEndAt_52 : decode prog_13_method_29_code 52 = .ok (.invokestatic 71, 3) := by decide +kernel
theorem dX14_isEndAt_55 : decode prog_13_method_29_code 55 = .ok (.ifCond .ne 48, 3) := by decide +kernel
theorem dX14_isEndAt_58 : decode prog_13_method_29_code 58 = .ok (.aload_n 1, 1) := by decide +kernel
theorem dX14_isEndAt_59 : decode prog_13_method_29_code 59 = .ok (.iload_n 2, 1) := by decide +kernel
theorem dX14_isEndAt_60 : decode prog_13_method_29_code 60 = .ok (.aload_n 0, 1) := by decide +kernel
theorem dX14_isEndAt_61 : decode prog_13_method_29_code 61 = .ok (.getfield 30, 3) := by decide +kernel
theorem dX14_isEndAt_64 : decode prog_13_method_29_code 64 = .ok (.iload 5, 2) := by decide +kernel
theorem dX14_isEndAt_66 : decode prog_13_method_29_code 66 = .ok (.iaload, 1) := by decide +kernel
theorem dX14_isEndAt_67 : decode prog_13_method_29_code 67 = .ok (.aload_n 0, 1) := by decide +kernel
theorem dX14_isEndAt_68 : decode prog_13_method_29_code 68 = .ok (.getfield 36, 3) := by decide +kernel
theorem dX14_isEndAt_71 : decode prog_13_method_29_code 71 = .ok (.iload 5, 2) := by decide +kernel
theorem dX14_isEndAt_73 : decode prog_13_method_29_code 73 = .ok (.iaload, 1) := by decide +kernel
theorem dX14_isEndAt_74 : decode prog_13_method_29_code 74 = .ok (.invokestatic 71, 3) := by decide +kernel
theorem dX14_isEndAt_77 : decode prog_13_method_29_code 77 = .ok (.ifCond .eq 30, 3) := by decide +kernel
theorem dX14_isEndAt_80 : decode prog_13_method_29_code 80 = .ok (.aload_n 3, 1) := by decide +kernel
theorem dX14_isEndAt_81 : decode prog_13_method_29_code 81 = .ok (.iload 4, 2) := by decide +kernel
theorem dX14_isEndAt_83 : decode prog_13_method_29_code 83 = .ok (.aload_n 0, 1) := by decide +kernel
theorem dX14_isEndAt_84 : decode prog_13_method_29_code 84 = .ok (.getfield 30, 3) := by decide +kernel
theorem dX14_isEndAt_87 : decode prog_13_method_29_code 87 = .ok (.iload 5, 2) := by decide +kernel
theorem dX14_isEndAt_89 : decode prog_13_method_29_code 89 = .ok (.iaload, 1) := by decide +kernel
theorem dX14_isEndAt_90 : decode prog_13_method_29_code 90 = .ok (.aload_n 0, 1) := by decide +kernel
theorem dX14_isEndAt_91 : decode prog_13_method_29_code 91 = .ok (.getfield 36, 3) := by decide +kernel
theorem dX14_isEndAt_94 : decode prog_13_method_29_code 94 = .ok (.iload 5, 2) := by decide +kernel
theorem dX14_isEndAt_96 : decode prog_13_method_29_code 96 = .ok (.iaload, 1) := by decide +kernel
theorem dX14_isEndAt_97 : decode prog_13_method_29_code 97 = .ok (.invokestatic 71, 3) := by decide +kernel
theorem dX14_isEndAt_100 : decode prog_13_method_29_code 100 = .ok (.ifCond .eq 7, 3) := by decide +kernel
theorem dX14_isEndAt_103 : decode prog_13_method_29_code 103 = .ok (.iconst 1, 1) := by decide +kernel
theorem dX14_isEndAt_104 : decode prog_13_method_29_code 104 = .ok (.goto 4, 3) := by decide +kernel
theorem dX14_isEndAt_107 : decode prog_13_method_29_code 107 = .ok (.iconst 0, 1) := by decide +kernel
theorem dX14_isEndAt_108 : decode prog_13_method_29_code 108 = .ok (.ireturn, 1) := by decide +kernel
theorem dX14_isInner_0 : decode prog_13_method_30_code 0 = .ok (.aload_n 0, 1) := by decide +kernel
theorem dX14_isInner_1 : decode prog_13_method_30_code 1 = .ok (.aload_n 2, 1) := by decide +kernel
theorem dX14_isInner_2 : decode prog_13_method_30_code 2 = .ok (.getfield 30, 3) := by decide +kernel
theorem dX14_isInner_5 : decode prog_13_method_30_code 5 = .ok (.iload_n 3, 1) := by decide +kernel
theorem dX14_isInner_6 : decode prog_13_method_30_code 6 = .ok (.iaload, 1) := by decide +kernel
theorem dX14_isInner_7 : decode prog_13_method_30_code 7 = .ok (.aload_n 2, 1) := by decide +kernel
theorem dX14_isInner_8 : decode prog_13_method_30_code 8 = .ok (.getfield 36, 3) := by decide +kernel
theorem dX14_isInner_11 : decode prog_13_method_30_code 11 = .ok (.iload_n 3, 1) := by decide +kernel
theorem dX14_isInner_12 : decode prog_13_method_30_code 12 = .ok (.iaload, 1) := by decide +kernel
theorem dX14_isInner_13 : decode prog_13_method_30_code 13 = .ok (.invokestatic 197, 3) := by decide +kernel
theorem dX14_isInner_16 : decode prog_13_method_30_code 16 = .ok (.iconst 1, 1) := by decide +kernel
theorem dX14_isInner_17 : decode prog_13_method_30_code 17 = .ok (.if_icmp .ne 27, 3) := by decide +kernel
theorem dX14_isInner_20 : decode prog_13_method_30_code 20 = .ok (.aload_n 1, 1) := by decide +kernel
theorem dX14_isInner_21 : decode prog_13_method_30_code 21 = .ok (.aload_n 2, 1) := by decide +kernel
theorem dX14_isInner_22 : decode prog_13_method_30_code 22 = .ok (.getfield 30, 3) := by decide +kernel
theorem dX14_isInner_25 : decode prog_13_method_30_code 25 = .ok (.iload_n 3, 1) := by decide +kernel
theorem dX14_isInner_26 : decode prog_13_method_30_code 26 = .ok (.iaload, 1) := by decide +kernel
theorem dX14_isInner_27 : decode prog_13_method_30_code 27 = .ok (.aload_n 2, 1) := by decide +kernel
theorem dX14_isInner_28 : decode prog_13_method_30_code 28 = .ok (.getfield 36, 3) := by decide +kernel
theorem dX14_isInner_31 : decode prog_13_method_30_code 31 = .ok (.iload_n 3, 1) := by decide +kernel
theorem dX14_isInner_32 : decode prog_13_method_30_code 32 = .ok (.iaload, 1) := by decide +kernel
theorem dX14_isInner_33 : decode prog_13_method_30_code 33 = .ok (.invokestatic 197, 3) := by decide +kernel
theorem dX14_isInner_36 : decode prog_13_method_30_code 36 = .ok (.iconst 1, 1) := by decide +kernel
theorem dX14_isInner_37 : decode prog_13_method_30_code 37 = .ok (.if_icmp .ne 7, 3) := by decide +kernel
theorem dX14_isInner_40 : decode prog_13_method_30_code 40 = .ok (.iconst 1, 1) := by decide +kernel
theorem dX14_isInner_41 : decode prog_13_method_30_code 41 = .ok (.goto 4, 3) := by decide +kernel
theorem dX14_isInner_44 : decode prog_13_method_30_code 44 = .ok (.iconst 0, 1) := by decide +kernel
theorem dX14_isInner_45 : decode prog_13_method_30_code 45 = .ok (.ireturn, 1) := by decide +kernel
theorem dX14_isWithin_0 : decode prog_13_method_31_code 0 = .ok (.aload_n 1, 1) := by decide +kernel
theorem dX14_isWithin_1 : decode prog_13_method_31_code 1 = .ok (.getfield 75, 3) := by decide +kernel
theorem dX14_isWithin_4 : decode prog_13_method_31_code 4 = .ok (.ifCond .ne 29, 3) := by decide +kernel
theorem dX14_isWithin_7 : decode prog_13_method_31_code 7 = .ok (.aload_n 2, 1) := by decide +kernel
theorem dX14_isWithin_8 : decode prog_13_method_31_code 8 = .ok (.aload_n 1, 1) := by decide +kernel
theorem dX14_isWithin_9 : decode prog_13_method_31_code 9 = .ok (.getfield 30, 3) := by decide +kernel
theorem dX14_isWithin_12 : decode prog_13_method_31_code 12 = .ok (.iconst 0, 1) := by decide +kernel
theorem dX14_isWithin_13 : decode prog_13_method_31_code 13 = .ok (.iaload, 1) := by decide +kernel
theorem dX14_isWithin_14 : decode prog_13_method_31_code 14 = .ok (.aload_n 1, 1) := by decide +kernel
theorem dX14_isWithin_15 : decode prog_13_method_31_code 15 = .ok (.getfield 36, 3) := by decide +kernel
theorem dX14_isWithin_18 : decode prog_13_method_31_code 18 = .ok (.iconst 0, 1) := by decide +kernel
theorem dX14_isWithin_19 : decode prog_13_method_31_code 19 = .ok (.iaload, 1) := by decide +kernel
theorem dX14_isWithin_20 : decode prog_13_method_31_code 20 = .ok (.invokestatic 197, 3) := by decide +kernel
theorem dX14_isWithin_23 : decode prog_13_method_31_code 23 = .ok (.iconst 1, 1) := by decide +kernel
theorem dX14_isWithin_24 : decode prog_13_method_31_code 24 = .ok (.if_icmp .ne 7, 3) := by decide +kernel
theorem dX14_isWithin_27 : decode prog_13_method_31_code 27 = .ok (.iconst 1, 1) := by decide +kernel
theorem dX14_isWithin_28 : decode prog_13_method_31_code 28 = .ok (.goto 4, 3) := by decide +kernel
theorem dX14_isWithin_31 : decode prog_13_method_31_code 31 = .ok (.iconst 0, 1) := by decide +kernel
theorem dX14_isWithin_32 : decode prog_13_method_31_code 32 = .ok (.ireturn, 1) := by decide +kernel
theorem dX14_isWithin_33 : decode prog_13_method_31_code 33 = .ok (.aload_n 2, 1) := by decide +kernel
theorem dX14_isWithin_34 : decode prog_13_method_31_code 34 = .ok (.getfield 75, 3) := by decide +kernel
theorem dX14_isWithin_37 : decode prog_13_method_31_code 37 = .ok (.aload_n 1, 1) := by decide +kernel
theorem dX14_isWithin_38 : decode prog_13_method_31_code 38 = .ok (.getfield 75, 3) := by decide +kernel
theorem dX14_isWithin_41 : decode prog_13_method_31_code 41 = .ok (.if_icmp .lt 12, 3) := by decide +kernel
theorem dX14_isWithin_44 : decode prog_13_method_31_code 44 = .ok (.aload_n 0, 1) := by decide +kernel
theorem dX14_isWithin_45 : decode prog_13_method_31_code 45 = .ok (.aload_n 1, 1) := by decide +kernel
theorem dX14_isWithin_46 : decode prog_13_method_31_code 46 = .ok (.aload_n 2, 1) := by decide +kernel
theorem dX14_isWithin_47 : decode prog_13_method_31_code 47 = .ok (.invokevirtual 217, 3) := by decide +kernel
theorem dX14_isWithin_50 : decode prog_13_method_31_code 50 = .ok (.ifCond .ne 5, 3) := by decide +kernel
theorem dX14_isWithin_53 : decode prog_13_method_31_code 53 = .ok (.iconst 0, 1) := by decide +kernel
theorem dX14_isWithin_54 : decode prog_13_method_31_code 54 = .ok (.ireturn, 1) := by decide +kernel
theorem dX14_isWithin_55 : decode prog_13_method_31_code 55 = .ok (.aload_n 0, 1) := by decide +kernel
theorem dX14_isWithin_56 : decode prog_13_method_31_code 56 = .ok (.aload_n 1, 1) := by decide +kernel
theorem dX14_isWithin_57 : decode prog_13_method_31_code 57 = .ok (.aload_n 2, 1) := by decide +kernel
theorem dX14_isWithin_58 : decode prog_13_method_31_code 58 = .ok (.invokevirtual 220, 3) := by decide +kernel
theorem dX14_isWithin_61 : decode prog_13_method_31_code 61 = .ok (.aload_n 0, 1) := by decide +kernel
theorem dX14_isWithin_62 : decode prog_13_method_31_code 62 = .ok (.getfield 171, 3) := by decide +kernel
theorem dX14_isWithin_65 : decode prog_13_method_31_code 65 = .ok (.ifCond .eq 5, 3) := by decide +kernel
theorem dX14_isWithin_68 : decode prog_13_method_31_code 68 = .ok (.iconst 0, 1) := by decide +kernel
theorem dX14_isWithin_69 : decode prog_13_method_31_code 69 = .ok (.ireturn, 1) := by decide +kernel
theorem dX14_isWithin_70 : decode prog_13_method_31_code 70 = .ok (.aload_n 1, 1) := by decide +kernel
theorem dX14_isWithin_71 : decode prog_13_method_31_code 71 = .ok (.getfield 75, 3) := by decide +kernel
theorem dX14_isWithin_74 : decode prog_13_method_31_code 74 = .ok (.iconst 1, 1) := by decide +kernel
theorem dX14_isWithin_75 : decode prog_13_method_31_code 75 = .ok (.if_icmp .ne 5, 3) := by decide +kernel
theorem dX14_isWithin_78 : decode prog_13_method_31_code 78 = .ok (.iconst 1, 1) := by decide +kernel
theorem dX14_isWithin_79 : decode prog_13_method_31_code 79 = .ok (.ireturn, 1) := by decide +kernel
theorem dX14_isWithin_80 : decode prog_13_method_31_code 80 = .ok (.aload_n 0, 1) := by decide +kernel
theorem dX14_isWithin_81 : decode prog_13_method_31_code 81 = .ok (.aload_n 2, 1) := by decide +kernel
theorem dX14_isWithin_82 : decode prog_13_method_31_code 82 = .ok (.aload_n 1, 1) := by decide +kernel
theorem dX14_isWithin_83 : decode prog_13_method_31_code 83 = .ok (.invokevirtual 220, 3) := by decide +kernel
theorem dX14_isWithin_86 : decode prog_13_method_31_code 86 = .ok (.aload_n 0, 1) := by decide +kernel
theorem dX14_isWithin_87 : decode prog_13_method_31_code 87 = .ok (.getfield 168, 3) := by decide +kernel
theorem dX14_isWithin_90 : decode prog_13_method_31_code 90 = .ok (.ifCond .ne 7, 3) := by decide +kernel
theorem dX14_isWithin_93 : decode prog_13_method_31_code 93 = .ok (.iconst 1, 1) := by decide +kernel
theorem dX14_isWithin_94 : decode prog_13_method_31_code 94 = .ok (.goto 4, 3) := by decide +kernel
theorem dX14_isWithin_97 : decode prog_13_method_31_code 97 = .ok (.iconst 0, 1) := by decide +kernel
theorem dX14_isWithin_98 : decode prog_13_method_31_code 98 = .ok (.ireturn, 1) := by decide +kernel
theorem dX14_relates_0 : decode prog_13_method_32_code 0 = .ok (.iload_n 1, 1) := by decide +kernel
theorem dX14_relates_1 : decode prog_13_method_32_code 1 = .ok (.tableswitch 81 0 3 #[31, 37, 51, 74], 31) := by decide +kernel
theorem dX14_relates_32 : decode prog_13_method_32_code 32 = .ok (.aload_n 2, 1) := by decide +kernel
theorem dX14_relates_33 : decode prog_13_method_32_code 33 = .ok (.aload_n 3, 1) := by decide +kernel
theorem dX14_relates_34 : decode prog_13_method_32_code 34 = .ok (.invokestatic 213, 3) := by decide +kernel
theorem dX14_relates_37 : decode prog_13_method_32_code 37 = .ok (.ireturn, 1) := by decide +kernel
theorem dX14_relates_38 : decode prog_13_method_32_code 38 = .ok (.aload_n 2, 1) := by decide +kernel
theorem dX14_relates_39 : decode prog_13_method_32_code 39 = .ok (.aload_n 3, 1) := by decide +kernel
theorem dX14_relates_40 : decode prog_13_method_32_code 40 = .ok (.invokestatic 213, 3) := by decide +kernel
theorem dX14_relates_43 : decode prog_13_method_32_code 43 = .ok (.ifCond .ne 7, 3) := by decide +kernel
theorem dX14_relates_46 : decode prog_13_method_32_code 46 = .ok (.iconst 1, 1) := by decide +kernel
theorem dX14_relates_47 : decode prog_13_method_32_code 47 = .ok (.goto 4, 3) := by decide +kernel
theorem dX14_relates_50 : decode prog_13_method_32_code 50 = .ok (.iconst 0, 1) := by decide +kernel
theorem dX14_relates_51 : decode prog_13_method_32_code 51 = .ok (.ireturn, 1) := by decide +kernel
theorem dX14_relates_52 : decode prog_13_method_32_code 52 = .ok (.aload_n 2, 1) := by decide +kernel
theorem dX14_relates_53 : decode prog_13_method_32_code 53 = .ok (.aload_n 3, 1) := by decide +kernel
theorem dX14_relates_54 : decode prog_13_method_32_code 54 = .ok (.invokestatic 213, 3) := by decide +kernel
theorem dX14_relates_57 : decode prog_13_method_32_code 57 = .ok (.ifCond .eq 16, 3) := by decide +kernel
theorem dX14_relates_60 : decode prog_13_method_32_code 60 = .ok (.aload_n 0, 1) := by decide +kernel
theorem dX14_relates_61 : decode prog_13_method_32_code 61 = .ok (.aload_n 2, 1) := by decide +kernel
theorem dX14_relates_62 : decode prog_13_method_32_code 62 = .ok (.aload_n 3, 1) := by decide +kernel
theorem dX14_relates_63 : decode prog_13_method_32_code 63 = .ok (.invokevirtual 217, 3) := by decide +kernel
theorem dX14_relates_66 : decode prog_13_method_32_code 66 = .ok (.ifCond .ne 7, 3) := by decide +kernel
theorem dX14_relates_69 : decode prog_13_method_32_code 69 = .ok (.iconst 1, 1) := by decide +kernel
theorem dX14_relates_70 : decode prog_13_method_32_code 70 = .ok (.goto 4, 3) := by decide +kernel
theorem dX14_relates_73 : decode prog_13_method_32_code 73 = .ok (.iconst 0, 1) := by decide +kernel
theorem dX14_relates_74 : decode prog_13_method_32_code 74 = .ok (.ireturn, 1) := by decide +kernel
theorem dX14_relates_75 : decode prog_13_method_32_code 75 = .ok (.aload_n 0, 1) := by decide +kernel
theorem dX14_relates_76 : decode prog_13_method_32_code 76 = .ok (.aload_n 2, 1) := by decide +kernel
theorem dX14_relates_77 : decode prog_13_method_32_code 77 = .ok (.aload_n 3, 1) := by decide +kernel
theorem dX14_relates_78 : decode prog_13_method_32_code 78 = .ok (.invokevirtual 235, 3) := by decide +kernel
theorem dX14_relates_81 : decode prog_13_method_32_code 81 = .ok (.ireturn, 1) := by decide +kernel
theorem dX14_relates_82 : decode prog_13_method_32_code 82 = .ok (.aload_n 0, 1) := by decide +kernel
theorem dX14_relates_83 : decode prog_13_method_32_code 83 = .ok (.aload_n 3, 1) := by decide +kernel
theorem dX14_relates_84 : decode prog_13_method_32_code 84 = .ok (.aload_n 2, 1) := by decide +kernel
theorem dX14_relates_85 : decode prog_13_method_32_code 85 = .ok (.invokevirtual 235, 3) := by decide +kernel
theorem dX14_relates_88 : decode prog_13_method_32_code 88 = .ok (.ireturn, 1) := by decide +kernel
theorem dX14_takeRing_0 : decode prog_13_method_33_code 0 = .ok (.aload_n 0, 1) := by decide +kernel
theorem dX14_takeRing_1 : decode prog_13_method_33_code 1 = .ok (.iload_n 3, 1) := by decide +kernel
theorem dX14_takeRing_2 : decode prog_13_method_33_code 2 = .ok (.invokevirtual 238, 3) := by decide +kernel
theorem dX14_takeRing_5 : decode prog_13_method_33_code 5 = .ok (.aload_n 1, 1) := by decide +kernel
theorem dX14_takeRing_6 : decode prog_13_method_33_code 6 = .ok (.iload_n 2, 1) := by decide +kernel
theorem dX14_takeRing_7 : decode prog_13_method_33_code 7 = .ok (.invokevirtual 64, 3) := by decide +kernel
theorem dX14_takeRing_10 : decode prog_13_method_33_code 10 = .ok (.istore 4, 2) := by decide +kernel
theorem dX14_takeRing_12 : decode prog_13_method_33_code 12 = .ok (.iload 4, 2) := by decide +kernel
theorem dX14_takeRing_14 : decode prog_13_method_33_code 14 = .ok (.aload_n 1, 1) := by decide +kernel
theorem dX14_takeRing_15 : decode prog_13_method_33_code 15 = .ok (.getfield 68, 3) := by decide +kernel
theorem dX14_takeRing_18 : decode prog_13_method_33_code 18 = .ok (.iload_n 2, 1) := by decide +kernel
theorem dX14_takeRing_19 : decode prog_13_method_33_code 19 = .ok (.iaload, 1) := by decide +kernel
theorem dX14_takeRing_20 : decode prog_13_method_33_code 20 = .ok (.if_icmp .ge 27, 3) := by decide +kernel
theorem dX14_takeRing_23 : decode prog_13_method_33_code 23 = .ok (.aload_n 0, 1) := by decide +kernel
theorem dX14_takeRing_24 : decode prog_13_method_33_code 24 = .ok (.aload_n 1, 1) := by decide +kernel
theorem dX14_takeRing_25 : decode prog_13_method_33_code 25 = .ok (.getfield 30, 3) := by decide +kernel
theorem dX14_takeRing_28 : decode prog_13_method_33_code 28 = .ok (.iload 4, 2) := by decide +kernel
theorem dX14_takeRing_30 : decode prog_13_method_33_code 30 = .ok (.iaload, 1) := by decide +kernel
theorem dX14_takeRing_31 : decode prog_13_method_33_code 31 = .ok (.aload_n 1, 1) := by decide +kernel
theorem dX14_takeRing_32 : decode prog_13_method_33_code 32 = .ok (.getfield 36, 3) := by decide +kernel
theorem dX14_takeRing_35 : decode prog_13_method_33_code 35 = .ok (.iload 4, 2) := by decide +kernel
theorem dX14_takeRing_37 : decode prog_13_method_33_code 37 = .ok (.iaload, 1) := by decide +kernel
theorem dX14_takeRing_38 : decode prog_13_method_33_code 38 = .ok (.invokevirtual 242, 3) := by decide +kernel
theorem dX14_takeRing_41 : decode prog_13_method_33_code 41 = .ok (.iinc 4 1, 3) := by decide +kernel
theorem dX14_takeRing_44 : decode prog_13_method_33_code 44 = .ok (.goto (-32), 3) := by decide +kernel
theorem dX14_takeRing_47 : decode prog_13_method_33_code 47 = .ok (.aload_n 0, 1) := by decide +kernel
theorem dX14_takeRing_48 : decode prog_13_method_33_code 48 = .ok (.invokevirtual 246, 3) := by decide +kernel
theorem dX14_takeRing_51 : decode prog_13_method_33_code 51 = .ok (.return_, 1) := by decide +kernel
theorem dX14_hasSteps_0 : decode prog_13_method_34_code 0 = .ok (.iconst 0, 1) := by decide +kernel
theorem dX14_hasSteps_1 : decode prog_13_method_34_code 1 = .ok (.istore_n 1, 1) := by decide +kernel
theorem dX14_hasSteps_2 : decode prog_13_method_34_code 2 = .ok (.iload_n 1, 1) := by decide +kernel
theorem dX14_hasSteps_3 : decode prog_13_method_34_code 3 = .ok (.iconst 1, 1) := by decide +kernel
theorem dX14_hasSteps_4 : decode prog_13_method_34_code 4 = .ok (.iadd, 1) := by decide +kernel
theorem dX14_hasSteps_5 : decode prog_13_method_34_code 5 = .ok (.aload_n 0, 1) := by decide +kernel
theorem dX14_hasSteps_6 : decode prog_13_method_34_code 6 = .ok (.getfield 79, 3) := by decide +kernel
theorem dX14_hasSteps_9 : decode prog_13_method_34_code 9 = .ok (.if_icmp .ge 30, 3) := by decide +kernel
theorem dX14_hasSteps_12 : decode prog_13_method_34_code 12 = .ok (.aload_n 0, 1) := by decide +kernel
theorem dX14_hasSteps_13 : decode prog_13_method_34_code 13 = .ok (.iload_n 1, 1) := by decide +kernel
theorem dX14_hasSteps_14 : decode prog_13_method_34_code 14 = .ok (.invokevirtual 82, 3) := by decide +kernel
theorem dX14_hasSteps_17 : decode prog_13_method_34_code 17 = .ok (.ifCond .eq 16, 3) := by decide +kernel
theorem dX14_hasSteps_20 : decode prog_13_method_34_code 20 = .ok (.aload_n 0, 1) := by decide +kernel
theorem dX14_hasSteps_21 : decode prog_13_method_34_code 21 = .ok (.iload_n 1, 1) := by decide +kernel
theorem dX14_hasSteps_22 : decode prog_13_method_34_code 22 = .ok (.iload_n 1, 1) := by decide +kernel
theorem dX14_hasSteps_23 : decode prog_13_method_34_code 23 = .ok (.iconst 1, 1) := by decide +kernel
theorem dX14_hasSteps_24 : decode prog_13_method_34_code 24 = .ok (.iadd, 1) := by decide +kernel
theorem dX14_hasSteps_25 : decode prog_13_method_34_code 25 = .ok (.invokevirtual 250, 3) := by decide +kernel
theorem dX14_hasSteps_28 : decode prog_13_method_34_code 28 = .ok (.ifCond .eq 5, 3) := by decide +kernel
theorem dX14_hasSteps_31 : decode prog_13_method_34_code 31 = .ok (.iconst 0, 1) := by decide +kernel
theorem dX14_hasSteps_32 : decode prog_13_method_34_code 32 = .ok (.ireturn, 1) := by decide +kernel
theorem dX14_hasSteps_33 : decode prog_13_method_34_code 33 = .ok (.iinc 1 1, 3) := by decide +kernel
theorem dX14_hasSteps_36 : decode prog_13_method_34_code 36 = .ok (.goto (-34), 3) := by decide +kernel
theorem dX14_hasSteps_39 : decode prog_13_method_34_code 39 = .ok (.iconst 1, 1) := by decide +kernel
theorem dX14_hasSteps_40 : decode prog_13_method_34_code 40 = .ok (.ireturn, 1) := by decide +kernel
theorem dX14_isSimple_0 : decode prog_13_method_35_code 0 = .ok (.aload_n 0, 1) := by decide +kernel
theorem dX14_isSimple_1 : decode prog_13_method_35_code 1 = .ok (.iload_n 1, 1) := by decide +kernel
theorem dX14_isSimple_2 : decode prog_13_method_35_code 2 = .ok (.invokevirtual 64, 3) := by decide +kernel
theorem dX14_isSimple_5 : decode prog_13_method_35_code 5 = .ok (.istore_n 2, 1) := by decide +kernel
theorem dX14_isSimple_6 : decode prog_13_method_35_code 6 = .ok (.aload_n 0, 1) := by decide +kernel
theorem dX14_isSimple_7 : decode prog_13_method_35_code 7 = .ok (.getfield 68, 3) := by decide +kernel
theorem dX14_isSimple_10 : decode prog_13_method_35_code 10 = .ok (.iload_n 1, 1) := by decide +kernel
theorem dX14_isSimple_11 : decode prog_13_method_35_code 11 = .ok (.iaload, 1) := by decide +kernel
theorem dX14_isSimple_12 : decode prog_13_method_35_code 12 = .ok (.iload_n 2, 1) := by decide +kernel
theorem dX14_isSimple_13 : decode prog_13_method_35_code 13 = .ok (.isub, 1) := by decide +kernel
theorem dX14_isSimple_14 : decode prog_13_method_35_code 14 = .ok (.iconst 1, 1) := by decide +kernel
theorem dX14_isSimple_15 : decode prog_13_method_35_code 15 = .ok (.isub, 1) := by decide +kernel
theorem dX14_isSimple_16 : decode prog_13_method_35_code 16 = .ok (.istore_n 3, 1) := by decide +kernel
theorem dX14_isSimple_17 : decode prog_13_method_35_code 17 = .ok (.iconst 0, 1) := by decide +kernel
theorem dX14_isSimple_18 : decode prog_13_method_35_code 18 = .ok (.istore 4, 2) := by decide +kernel
theorem dX14_isSimple_20 : decode prog_13_method_35_code 20 = .ok (.iload 4, 2) := by decide +kernel
theorem dX14_isSimple_22 : decode prog_13_method_35_code 22 = .ok (.iload_n 3, 1) := by decide +kernel
theorem dX14_isSimple_23 : decode prog_13_method_35_code 23 = .ok (.if_icmp .ge 229, 3) := by decide +kernel
theorem dX14_isSimple_26 : decode prog_13_method_35_code 26 = .ok (.iload 4, 2) := by decide +kernel
theorem dX14_isSimple_28 : decode prog_13_method_35_code 28 = .ok (.iconst 1, 1) := by decide +kernel
theorem dX14_isSimple_29 : decode prog_13_method_35_code 29 = .ok (.iadd, 1) := by decide +kernel
theorem dX14_isSimple_30 : decode prog_13_method_35_code 30 = .ok (.istore 5, 2) := by decide +kernel
theorem dX14_isSimple_32 : decode prog_13_method_35_code 32 = .ok (.iload 5, 2) := by decide +kernel
theorem dX14_isSimple_34 : decode prog_13_method_35_code 34 = .ok (.iload_n 3, 1) := by decide +kernel
theorem dX14_isSimple_35 : decode prog_13_method_35_code 35 = .ok (.if_icmp .ge 211, 3) := by decide +kernel
theorem dX14_isSimple_38 : decode prog_13_method_35_code 38 = .ok (.iload 5, 2) := by decide +kernel
theorem dX14_isSimple_40 : decode prog_13_method_35_code 40 = .ok (.iload 4, 2) := by decide +kernel
theorem dX14_isSimple_42 : decode prog_13_method_35_code 42 = .ok (.iconst 1, 1) := by decide +kernel
theorem dX14_isSimple_43 : decode prog_13_method_35_code 43 = .ok (.iadd, 1) := by decide +kernel
theorem dX14_isSimple_44 : decode prog_13_method_35_code 44 = .ok (.if_icmp .ne 7, 3) := by decide +kernel
theorem dX14_isSimple_47 : decode prog_13_method_35_code 47 = .ok (.iconst 1, 1) := by decide +kernel
theorem dX14_isSimple_48 : decode prog_13_method_35_code 48 = .ok (.goto 4, 3) := by decide +kernel
theorem dX14_isSimple_51 : decode prog_13_method_35_code 51 = .ok (.iconst 0, 1) := by decide +kernel
theorem dX14_isSimple_52 : decode prog_13_method_35_code 52 = .ok (.istore 6, 2) := by decide +kernel
theorem dX14_isSimple_54 : decode prog_13_method_35_code 54 = .ok (.iload 4, 2) := by decide +kernel
theorem dX14_isSimple_56 : decode prog_13_method_35_code 56 = .ok (.ifCond .ne 15, 3) := by decide +kernel
theorem dX14_isSimple_59 : decode prog_13_method_35_code 59 = .ok (.iload 5, 2) := by decide +kernel
theorem dX14_isSimple_61 : decode prog_13_method_35_code 61 = .ok (.iload_n 3, 1) := by decide +kernel
theorem dX14_isSimple_62 : decode prog_13_method_35_code 62 = .ok (.iconst 1, 1) := by decide +kernel
theorem dX14_isSimple_63 : decode prog_13_method_35_code 63 = .ok (.isub, 1) := by decide +kernel
theorem dX14_isSimple_64 : decode prog_13_method_35_code 64 = .ok (.if_icmp .ne 7, 3) := by decide +kernel
theorem dX14_isSimple_67 : decode prog_13_method_35_code 67 = .ok (.iconst 1, 1) := by decide +kernel
theorem dX14_isSimple_68 : decode prog_13_method_35_code 68 = .ok (.goto 4, 3) := by decide +kernel
theorem dX14_isSimple_71 : decode prog_13_method_35_code 71 = .ok (.iconst 0, 1) := by decide +kernel
theorem dX14_isSimple_72 : decode prog_13_method_35_code 72 = .ok (.istore 7, 2) := by decide +kernel
theorem dX14_isSimple_74 : decode prog_13_method_35_code 74 = .ok (.iload 6, 2) := by decide +kernel
theorem dX14_isSimple_76 : decode prog_13_method_35_code 76 = .ok (.ifCond .ne 26, 3) := by decide +kernel
theorem dX14_isSimple_79 : decode prog_13_method_35_code 79 = .ok (.iload 7, 2) := by decide +kernel
theorem dX14_isSimple_81 : decode prog_13_method_35_code 81 = .ok (.ifCond .ne 21, 3) := by decide +kernel
theorem dX14_isSimple_84 : decode prog_13_method_35_code 84 = .ok (.aload_n 0, 1) := by decide +kernel
theorem dX14_isSimple_85 : decode prog_13_method_35_code 85 = .ok (.iload_n 2, 1) := by decide +kernel
theorem dX14_isSimple_86 : decode prog_13_method_35_code 86 = .ok (.iload 4, 2) := by decide +kernel
theorem dX14_isSimple_88 : decode prog_13_method_35_code 88 = .ok (.iadd, 1) := by decide +kernel
theorem dX14_isSimple_89 : decode prog_13_method_35_code 89 = .ok (.aload_n 0, 1) := by decide +kernel
theorem dX14_isSimple_90 : decode prog_13_method_35_code 90 = .ok (.iload_n 2, 1) := by decide +kernel
theorem dX14_isSimple_91 : decode prog_13_method_35_code 91 = .ok (.iload 5, 2) := by decide +kernel
theorem dX14_isSimple_93 : decode prog_13_method_35_code 93 = .ok (.iadd, 1) := by decide +kernel
theorem dX14_isSimple_94 : decode prog_13_method_35_code 94 = .ok (.invokestatic 209, 3) := by decide +kernel
theorem dX14_isSimple_97 : decode prog_13_method_35_code 97 = .ok (.ifCond .eq 5, 3) := by decide +kernel
theorem dX14_isSimple_100 : decode prog_13_method_35_code 100 = .ok (.iconst 0, 1) := by decide +kernel
theorem dX14_isSimple_101 : decode prog_13_method_35_code 101 = .ok (.ireturn, 1) := by decide +kernel
theorem dX14_isSimple_102 : decode prog_13_method_35_code 102 = .ok (.iload 6, 2) := by decide +kernel
theorem dX14_isSimple_104 : decode prog_13_method_35_code 104 = .ok (.ifCond .eq 67, 3) := by decide +kernel
theorem dX14_isSimple_107 : decode prog_13_method_35_code 107 = .ok (.aload_n 0, 1) := by decide +kernel
theorem dX14_isSimple_108 : decode prog_13_method_35_code 108 = .ok (.iload_n 2, 1) := by decide +kernel
theorem dX14_isSimple_109 : decode prog_13_method_35_code 109 = .ok (.iload 4, 2) := by decide +kernel
theorem dX14_isSimple_111 : decode prog_13_method_35_code 111 = .ok (.iadd, 1) := by decide +kernel
theorem dX14_isSimple_112 : decode prog_13_method_35_code 112 = .ok (.aload_n 0, 1) := by decide +kernel
theorem dX14_isSimple_113 : decode prog_13_method_35_code 113 = .ok (.getfield 30, 3) := by decide +kernel
theorem dX14_isSimple_116 : decode prog_13_method_35_code 116 = .ok (.iload_n 2, 1) := by decide +kernel
theorem dX14_isSimple_117 : decode prog_13_method_35_code 117 = .ok (.iload 5, 2) := by decide +kernel
theorem dX14_isSimple_119 : decode prog_13_method_35_code 119 = .ok (.iadd, 1) := by decide +kernel
theorem dX14_isSimple_120 : decode prog_13_method_35_code 120 = .ok (.iconst 1, 1) := by decide +kernel
theorem dX14_isSimple_121 : decode prog_13_method_35_code 121 = .ok (.iadd, 1) := by decide +kernel
theorem dX14_isSimple_122 : decode prog_13_method_35_code 122 = .ok (.iaload, 1) := by decide +kernel
theorem dX14_isSimple_123 : decode prog_13_method_35_code 123 = .ok (.aload_n 0, 1) := by decide +kernel
theorem dX14_isSimple_124 : decode prog_13_method_35_code 124 = .ok (.getfield 36, 3) := by decide +kernel
theorem dX14_isSimple_127 : decode prog_13_method_35_code 127 = .ok (.iload_n 2, 1) := by decide +kernel
theorem dX14_isSimple_128 : decode prog_13_method_35_code 128 = .ok (.iload 5, 2) := by decide +kernel
theorem dX14_isSimple_130 : decode prog_13_method_35_code 130 = .ok (.iadd, 1) := by decide +kernel
theorem dX14_isSimple_131 : decode prog_13_method_35_code 131 = .ok (.iconst 1, 1) := by decide +kernel
theorem dX14_isSimple_132 : decode prog_13_method_35_code 132 = .ok (.iadd, 1) := by decide +kernel
theorem dX14_isSimple_133 : decode prog_13_method_35_code 133 = .ok (.iaload, 1) := by decide +kernel
theorem dX14_isSimple_134 : decode prog_13_method_35_code 134 = .ok (.invokestatic 71, 3) := by decide +kernel
theorem dX14_isSimple_137 : decode prog_13_method_35_code 137 = .ok (.ifCond .ne 32, 3) := by decide +kernel
theorem dX14_isSimple_140 : decode prog_13_method_35_code 140 = .ok (.aload_n 0, 1) := by decide +kernel
theorem dX14_isSimple_141 : decode prog_13_method_35_code 141 = .ok (.iload_n 2, 1) := by decide +kernel
theorem dX14_isSimple_142 : decode prog_13_method_35_code 142 = .ok (.iload 5, 2) := by decide +kernel
theorem dX14_isSimple_144 : decode prog_13_method_35_code 144 = .ok (.iadd, 1) := by decide +kernel
theorem dX14_isSimple_145 : decode prog_13_method_35_code 145 = .ok (.aload_n 0, 1) := by decide +kernel
theorem dX14_isSimple_146 : decode prog_13_method_35_code 146 = .ok (.getfield 30, 3) := by decide +kernel
theorem dX14_isSimple_149 : decode prog_13_method_35_code 149 = .ok (.iload_n 2, 1) := by decide +kernel
theorem dX14_isSimple_150 : decode prog_13_method_35_code 150 = .ok (.iload 4, 2) := by decide +kernel
theorem dX14_isSimple_152 : decode prog_13_method_35_code 152 = .ok (.iadd, 1) := by decide +kernel
theorem dX14_isSimple_153 : decode prog_13_method_35_code 153 = .ok (.iaload, 1) := by decide +kernel
theorem dX14_isSimple_154 : decode prog_13_method_35_code 154 = .ok (.aload_n 0, 1) := by decide +kernel
theorem dX14_isSimple_155 : decode prog_13_method_35_code 155 = .ok (.getfield 36, 3) := by decide +kernel
theorem dX14_isSimple_158 : decode prog_13_method_35_code 158 = .ok (.iload_n 2, 1) := by decide +kernel
theorem dX14_isSimple_159 : decode prog_13_method_35_code 159 = .ok (.iload 4, 2) := by decide +kernel
theorem dX14_isSimple_161 : decode prog_13_method_35_code 161 = .ok (.iadd, 1) := by decide +kernel
theorem dX14_isSimple_162 : decode prog_13_method_35_code 162 = .ok (.iaload, 1) := by decide +kernel
theorem dX14_isSimple_163 : decode prog_13_method_35_code 163 = .ok (.invokestatic 71, 3) := by decide +kernel
theorem dX14_isSimple_166 : decode prog_13_method_35_code 166 = .ok (.ifCond .eq 5, 3) := by decide +kernel
theorem dX14_isSimple_169 : decode prog_13_method_35_code 169 = .ok (.iconst 0, 1) := by decide +kernel
theorem dX14_isSimple_170 : decode prog_13_method_35_code 170 = .ok (.ireturn, 1) := by decide +kernel
theorem dX14_isSimple_171 : decode prog_13_method_35_code 171 = .ok (.iload 7, 2) := by decide +kernel
theorem dX14_isSimple_173 : decode prog_13_method_35_code 173 = .ok (.ifCond .eq 67, 3) := by decide +kernel
theorem dX14_isSimple_176 : decode prog_13_method_35_code 176 = .ok (.aload_n 0, 1) := by decide +kernel
theorem dX14_isSimple_177 : decode prog_13_method_35_code 177 = .ok (.iload_n 2, 1) := by decide +kernel
theorem dX14_isSimple_178 : decode prog_13_method_35_code 178 = .ok (.iload 4, 2) := by decide +kernel
theorem dX14_isSimple_180 : decode prog_13_method_35_code 180 = .ok (.iadd, 1) := by decide +kernel
theorem dX14_isSimple_181 : decode prog_13_method_35_code 181 = .ok (.aload_n 0, 1) := by decide +kernel
theorem dX14_isSimple_182 : decode prog_13_method_35_code 182 = .ok (.getfield 30, 3) := by decide +kernel
theorem dX14_isSimple_185 : decode prog_13_method_35_code 185 = .ok (.iload_n 2, 1) := by decide +kernel
theorem dX14_isSimple_186 : decode prog_13_method_35_code 186 = .ok (.iload 5, 2) := by decide +kernel
theorem dX14_isSimple_188 : decode prog_13_method_35_code 188 = .ok (.iadd, 1) := by decide +kernel
theorem dX14_isSimple_189 : decode prog_13_method_35_code 189 = .ok (.iaload, 1) := by decide +kernel
theorem dX14_isSimple_190 : decode prog_13_method_35_code 190 = .ok (.aload_n 0, 1) := by decide +kernel
theorem dX14_isSimple_191 : decode prog_13_method_35_code 191 = .ok (.getfield 36, 3) := by decide +kernel
theorem dX14_isSimple_194 : decode prog_13_method_35_code 194 = .ok (.iload_n 2, 1) := by decide +kernel
theorem dX14_isSimple_195 : decode prog_13_method_35_code 195 = .ok (.iload 5, 2) := by decide +kernel
theorem dX14_isSimple_197 : decode prog_13_method_35_code 197 = .ok (.iadd, 1) := by decide +kernel
theorem dX14_isSimple_198 : decode prog_13_method_35_code 198 = .ok (.iaload, 1) := by decide +kernel
theorem dX14_isSimple_199 : decode prog_13_method_35_code 199 = .ok (.invokestatic 71, 3) := by decide +kernel
theorem dX14_isSimple_202 : decode prog_13_method_35_code 202 = .ok (.ifCond .ne 36, 3) := by decide +kernel
theorem dX14_isSimple_205 : decode prog_13_method_35_code 205 = .ok (.aload_n 0, 1) := by decide +kernel
theorem dX14_isSimple_206 : decode prog_13_method_35_code 206 = .ok (.iload_n 2, 1) := by decide +kernel
theorem dX14_isSimple_207 : decode prog_13_method_35_code 207 = .ok (.iload 5, 2) := by decide +kernel
theorem dX14_isSimple_209 : decode prog_13_method_35_code 209 = .ok (.iadd, 1) := by decide +kernel
theorem dX14_isSimple_210 : decode prog_13_method_35_code 210 = .ok (.aload_n 0, 1) := by decide +kernel
theorem dX14_isSimple_211 : decode prog_13_method_35_code 211 = .ok (.getfield 30, 3) := by decide +kernel
theorem dX14_isSimple_214 : decode prog_13_method_35_code 214 = .ok (.iload_n 2, 1) := by decide +kernel
theorem dX14_isSimple_215 : decode prog_13_method_35_code 215 = .ok (.iload 4, 2) := by decide +kernel
theorem dX14_isSimple_217 : decode prog_13_method_35_code 217 = .ok (.iadd, 1) := by decide +kernel
theorem dX14_isSimple_218 : decode prog_13_method_35_code 218 = .ok (.iconst 1, 1) := by decide +kernel
theorem dX14_isSimple_219 : decode prog_13_method_35_code 219 = .ok (.iadd, 1) := by decide +kernel
theorem dX14_isSimple_220 : decode prog_13_method_35_code 220 = .ok (.iaload, 1) := by decide +kernel
theorem dX14_isSimple_221 : decode prog_13_method_35_code 221 = .ok (.aload_n 0, 1) := by decide +kernel
theorem dX14_isSimple_222 : decode prog_13_method_35_code 222 = .ok (.getfield 36, 3) := by decide +kernel
theorem dX14_isSimple_225 : decode prog_13_method_35_code 225 = .ok (.iload_n 2, 1) := by decide +kernel
theorem dX14_isSimple_226 : decode prog_13_method_35_code 226 = .ok (.iload 4, 2) := by decide +kernel
theorem dX14_isSimple_228 : decode prog_13_method_35_code 228 = .ok (.iadd, 1) := by decide +kernel
theorem dX14_isSimple_229 : decode prog_13_method_35_code 229 = .ok (.iconst 1, 1) := by decide +kernel
theorem dX14_isSimple_230 : decode prog_13_method_35_code 230 = .ok (.iadd, 1) := by decide +kernel
theorem dX14_isSimple_231 : decode prog_13_method_35_code 231 = .ok (.iaload, 1) := by decide +kernel
theorem dX14_isSimple_232 : decode prog_13_method_35_code 232 = .ok (.invokestatic 71, 3) := by decide +kernel
theorem dX14_isSimple_235 : decode prog_13_method_35_code 235 = .ok (.ifCond .eq 5, 3) := by decide +kernel
theorem dX14_isSimple_238 : decode prog_13_method_35_code 238 = .ok (.iconst 0, 1) := by decide +kernel
theorem dX14_isSimple_239 : decode prog_13_method_35_code 239 = .ok (.ireturn, 1) := by decide +kernel
theorem dX14_isSimple_240 : decode prog_13_method_35_code 240 = .ok (.iinc 5 1, 3) := by decide +kernel
theorem dX14_isSimple_243 : decode prog_13_method_35_code 243 = .ok (.goto (-211), 3) := by decide +kernel
theorem dX14_isSimple_246 : decode prog_13_method_35_code 246 = .ok (.iinc 4 1, 3) := by decide +kernel
theorem dX14_isSimple_249 : decode prog_13_method_35_code 249 = .ok (.goto (-229), 3) := by decide +kernel
theorem dX14_isSimple_252 : decode prog_13_method_35_code 252 = .ok (.iconst 1, 1) := by decide +kernel
theorem dX14_isSimple_253 : decode prog_13_method_35_code 253 = .ok (.ireturn, 1) := by decide +kernel
theorem dX14_areRingsRight_0 : decode prog_13_method_36_code 0 = .ok (.iconst 1, 1) := by decide +kernel
theorem dX14_areRingsRight_1 : decode prog_13_method_36_code 1 = .ok (.istore_n 2, 1) := by decide +kernel
theorem dX14_areRingsRight_2 : decode prog_13_method_36_code 2 = .ok (.iload_n 2, 1) := by decide +kernel
theorem dX14_areRingsRight_3 : decode prog_13_method_36_code 3 = .ok (.aload_n 1, 1) := by decide +kernel
theorem dX14_areRingsRight_4 : decode prog_13_method_36_code 4 = .ok (.getfield 180, 3) := by decide +kernel
theorem dX14_areRingsRight_7 : decode prog_13_method_36_code 7 = .ok (.if_icmp .ge 95, 3) := by decide +kernel
theorem dX14_areRingsRight_10 : decode prog_13_method_36_code 10 = .ok (.iconst 0, 1) := by decide +kernel
theorem dX14_areRingsRight_11 : decode prog_13_method_36_code 11 = .ok (.istore_n 3, 1) := by decide +kernel
theorem dX14_areRingsRight_12 : decode prog_13_method_36_code 12 = .ok (.iload_n 3, 1) := by decide +kernel
theorem dX14_areRingsRight_13 : decode prog_13_method_36_code 13 = .ok (.aload_n 1, 1) := by decide +kernel
theorem dX14_areRingsRight_14 : decode prog_13_method_36_code 14 = .ok (.getfield 180, 3) := by decide +kernel
theorem dX14_areRingsRight_17 : decode prog_13_method_36_code 17 = .ok (.if_icmp .ge 79, 3) := by decide +kernel
theorem dX14_areRingsRight_20 : decode prog_13_method_36_code 20 = .ok (.iload_n 3, 1) := by decide +kernel
theorem dX14_areRingsRight_21 : decode prog_13_method_36_code 21 = .ok (.iload_n 2, 1) := by decide +kernel
theorem dX14_areRingsRight_22 : decode prog_13_method_36_code 22 = .ok (.if_icmp .ne 6, 3) := by decide +kernel
theorem dX14_areRingsRight_25 : decode prog_13_method_36_code 25 = .ok (.goto 65, 3) := by decide +kernel
theorem dX14_areRingsRight_28 : decode prog_13_method_36_code 28 = .ok (.aload_n 0, 1) := by decide +kernel
theorem dX14_areRingsRight_29 : decode prog_13_method_36_code 29 = .ok (.getfield 254, 3) := by decide +kernel
theorem dX14_areRingsRight_32 : decode prog_13_method_36_code 32 = .ok (.aload_n 1, 1) := by decide +kernel
theorem dX14_areRingsRight_33 : decode prog_13_method_36_code 33 = .ok (.iload_n 2, 1) := by decide +kernel
theorem dX14_areRingsRight_34 : decode prog_13_method_36_code 34 = .ok (.iconst 1, 1) := by decide +kernel
theorem dX14_areRingsRight_35 : decode prog_13_method_36_code 35 = .ok (.invokestatic 258, 3) := by decide +kernel
theorem dX14_areRingsRight_38 : decode prog_13_method_36_code 38 = .ok (.aload_n 0, 1) := by decide +kernel
theorem dX14_areRingsRight_39 : decode prog_13_method_36_code 39 = .ok (.getfield 262, 3) := by decide +kernel
theorem dX14_areRingsRight_42 : decode prog_13_method_36_code 42 = .ok (.aload_n 1, 1) := by decide +kernel
theorem dX14_areRingsRight_43 : decode prog_13_method_36_code 43 = .ok (.iload_n 3, 1) := by decide +kernel
theorem dX14_areRingsRight_44 : decode prog_13_method_36_code 44 = .ok (.iconst 2, 1) := by decide +kernel
theorem dX14_areRingsRight_45 : decode prog_13_method_36_code 45 = .ok (.invokestatic 258, 3) := by decide +kernel
theorem dX14_areRingsRight_48 : decode prog_13_method_36_code 48 = .ok (.aload_n 0, 1) := by decide +kernel
theorem dX14_areRingsRight_49 : decode prog_13_method_36_code 49 = .ok (.aload_n 0, 1) := by decide +kernel
theorem dX14_areRingsRight_50 : decode prog_13_method_36_code 50 = .ok (.getfield 254, 3) := by decide +kernel
theorem dX14_areRingsRight_53 : decode prog_13_method_36_code 53 = .ok (.aload_n 0, 1) := by decide +kernel
theorem dX14_areRingsRight_54 : decode prog_13_method_36_code 54 = .ok (.getfield 262, 3) := by decide +kernel
theorem dX14_areRingsRight_57 : decode prog_13_method_36_code 57 = .ok (.invokevirtual 220, 3) := by decide +kernel
theorem dX14_areRingsRight_60 : decode prog_13_method_36_code 60 = .ok (.aload_n 0, 1) := by decide +kernel
theorem dX14_areRingsRight_61 : decode prog_13_method_36_code 61 = .ok (.getfield 174, 3) := by decide +kernel
theorem dX14_areRingsRight_64 : decode prog_13_method_36_code 64 = .ok (.ifCond .ne 24, 3) := by decide +kernel
theorem dX14_areRingsRight_67 : decode prog_13_method_36_code 67 = .ok (.iload_n 3, 1) := by decide +kernel
theorem dX14_areRingsRight_68 : decode prog_13_method_36_code 68 = .ok (.ifCond .ne 13, 3) := by decide +kernel
theorem dX14_areRingsRight_71 : decode prog_13_method_36_code 71 = .ok (.aload_n 0, 1) := by decide +kernel
theorem dX14_areRingsRight_72 : decode prog_13_method_36_code 72 = .ok (.getfield 171, 3) := by decide +kernel
theorem dX14_areRingsRight_75 : decode prog_13_method_36_code 75 = .ok (.ifCond .eq 15, 3) := by decide +kernel
theorem dX14_areRingsRight_78 : decode prog_13_method_36_code 78 = .ok (.goto 10, 3) := by decide +kernel
theorem dX14_areRingsRight_81 : decode prog_13_method_36_code 81 = .ok (.aload_n 0, 1) := by decide +kernel
theorem dX14_areRingsRight_82 : decode prog_13_method_36_code 82 = .ok (.getfield 168, 3) := by decide +kernel
theorem dX14_areRingsRight_85 : decode prog_13_method_36_code 85 = .ok (.ifCond .eq 5, 3) := by decide +kernel
theorem dX14_areRingsRight_88 : decode prog_13_method_36_code 88 = .ok (.iconst 0, 1) := by decide +kernel
theorem dX14_areRingsRight_89 : decode prog_13_method_36_code 89 = .ok (.ireturn, 1) := by decide +kernel
theorem dX14_areRingsRight_90 : decode prog_13_method_36_code 90 = .ok (.iinc 3 1, 3) := by decide +kernel
theorem dX14_areRingsRight_93 : decode prog_13_method_36_code 93 = .ok (.goto (-81), 3) := by decide +kernel
theorem dX14_areRingsRight_96 : decode prog_13_method_36_code 96 = .ok (.iinc 2 1, 3) := by decide +kernel
theorem dX14_areRingsRight_99 : decode prog_13_method_36_code 99 = .ok (.goto (-97), 3) := by decide +kernel
theorem dX14_areRingsRight_102 : decode prog_13_method_36_code 102 = .ok (.iconst 1, 1) := by decide +kernel
theorem dX14_areRingsRight_103 : decode prog_13_method_36_code 103 = .ok (.ireturn, 1) := by decide +kernel
theorem dX14_isOnePiece_0 : decode prog_13_method_37_code 0 = .ok (.iconst 0, 1) := by decide +kernel
theorem dX14_isOnePiece_1 : decode prog_13_method_37_code 1 = .ok (.istore_n 2, 1) := by decide +kernel
theorem dX14_isOnePiece_2 : decode prog_13_method_37_code 2 = .ok (.iload_n 2, 1) := by decide +kernel
theorem dX14_isOnePiece_3 : decode prog_13_method_37_code 3 = .ok (.aload_n 1, 1) := by decide +kernel
theorem dX14_isOnePiece_4 : decode prog_13_method_37_code 4 = .ok (.getfield 180, 3) := by decide +kernel
theorem dX14_isOnePiece_7 : decode prog_13_method_37_code 7 = .ok (.if_icmp .ge 16, 3) := by decide +kernel
theorem dX14_isOnePiece_10 : decode prog_13_method_37_code 10 = .ok (.aload_n 0, 1) := by decide +kernel
theorem dX14_isOnePiece_11 : decode prog_13_method_37_code 11 = .ok (.getfield 265, 3) := by decide +kernel
theorem dX14_isOnePiece_14 : decode prog_13_method_37_code 14 = .ok (.iload_n 2, 1) := by decide +kernel
theorem dX14_isOnePiece_15 : decode prog_13_method_37_code 15 = .ok (.iload_n 2, 1) := by decide +kernel
theorem dX14_isOnePiece_16 : decode prog_13_method_37_code 16 = .ok (.iastore, 1) := by decide +kernel
theorem dX14_isOnePiece_17 : decode prog_13_method_37_code 17 = .ok (.iinc 2 1, 3) := by decide +kernel
theorem dX14_isOnePiece_20 : decode prog_13_method_37_code 20 = .ok (.goto (-18), 3) := by decide +kernel
theorem dX14_isOnePiece_23 : decode prog_13_method_37_code 23 = .ok (.iconst 0, 1) := by decide +kernel
theorem dX14_isOnePiece_24 : decode prog_13_method_37_code 24 = .ok (.istore_n 2, 1) := by decide +kernel
theorem dX14_isOnePiece_25 : decode prog_13_method_37_code 25 = .ok (.iload_n 2, 1) := by decide +kernel
theorem dX14_isOnePiece_26 : decode prog_13_method_37_code 26 = .ok (.aload_n 1, 1) := by decide +kernel
theorem dX14_isOnePiece_27 : decode prog_13_method_37_code 27 = .ok (.getfield 79, 3) := by decide +kernel
theorem dX14_isOnePiece_30 : decode prog_13_method_37_code 30 = .ok (.if_icmp .ge 153, 3) := by decide +kernel
theorem dX14_isOnePiece_33 : decode prog_13_method_37_code 33 = .ok (.iconst 1, 1) := by decide +kernel
theorem dX14_isOnePiece_34 : decode prog_13_method_37_code 34 = .ok (.istore_n 3, 1) := by decide +kernel
theorem dX14_isOnePiece_35 : decode prog_13_method_37_code 35 = .ok (.iconst 0, 1) := by decide +kernel
theorem dX14_isOnePiece_36 : decode prog_13_method_37_code 36 = .ok (.istore 4, 2) := by decide +kernel
theorem dX14_isOnePiece_38 : decode prog_13_method_37_code 38 = .ok (.iload 4, 2) := by decide +kernel
theorem dX14_isOnePiece_40 : decode prog_13_method_37_code 40 = .ok (.iload_n 2, 1) := by decide +kernel
theorem dX14_isOnePiece_41 : decode prog_13_method_37_code 41 = .ok (.if_icmp .ge 29, 3) := by decide +kernel
theorem dX14_isOnePiece_44 : decode prog_13_method_37_code 44 = .ok (.iload_n 3, 1) := by decide +kernel
theorem dX14_isOnePiece_45 : decode prog_13_method_37_code 45 = .ok (.ifCond .eq 17, 3) := by decide +kernel
theorem dX14_isOnePiece_48 : decode prog_13_method_37_code 48 = .ok (.aload_n 1, 1) := by decide +kernel
theorem dX14_isOnePiece_49 : decode prog_13_method_37_code 49 = .ok (.iload 4, 2) := by decide +kernel
theorem dX14_isOnePiece_51 : decode prog_13_method_37_code 51 = .ok (.iload_n 2, 1) := by decide +kernel
theorem dX14_isOnePiece_52 : decode prog_13_method_37_code 52 = .ok (.invokevirtual 250, 3) := by decide +kernel
theorem dX14_isOnePiece_55 : decode prog_13_method_37_code 55 = .ok (.ifCond .ne 7, 3) := by decide +kernel
theorem dX14_isOnePiece_58 : decode prog_13_method_37_code 58 = .ok (.iconst 1, 1) := by decide +kernel
theorem dX14_isOnePiece_59 : decode prog_13_method_37_code 59 = .ok (.goto 4, 3) := by decide +kernel
theorem dX14_isOnePiece_62 : decode prog_13_method_37_code 62 = .ok (.iconst 0, 1) := by decide +kernel
theorem dX14_isOnePiece_63 : decode prog_13_method_37_code 63 = .ok (.istore_n 3, 1) := by decide +kernel
theorem dX14_isOnePiece_64 : decode prog_13_method_37_code 64 = .ok (.iinc 4 1, 3) := by decide +kernel
theorem dX14_isOnePiece_67 : decode prog_13_method_37_code 67 = .ok (.goto (-29), 3) := by decide +kernel
theorem dX14_isOnePiece_70 : decode prog_13_method_37_code 70 = .ok (.iconst (-1), 1) := by decide +kernel
theorem dX14_isOnePiece_71 : decode prog_13_method_37_code 71 = .ok (.istore 4, 2) := by decide +kernel
theorem dX14_isOnePiece_73 : decode prog_13_method_37_code 73 = .ok (.iconst 0, 1) := by decide +kernel
theorem dX14_isOnePiece_74 : decode prog_13_method_37_code 74 = .ok (.istore 5, 2) := by decide +kernel
theorem dX14_isOnePiece_76 : decode prog_13_method_37_code 76 = .ok (.iload 5, 2) := by decide +kernel
theorem dX14_isOnePiece_78 : decode prog_13_method_37_code 78 = .ok (.aload_n 1, 1) := by decide +kernel
theorem dX14_isOnePiece_79 : decode prog_13_method_37_code 79 = .ok (.getfield 180, 3) := by decide +kernel
theorem dX14_isOnePiece_82 : decode prog_13_method_37_code 82 = .ok (.if_icmp .ge 95, 3) := by decide +kernel
theorem dX14_isOnePiece_85 : decode prog_13_method_37_code 85 = .ok (.iload_n 3, 1) := by decide +kernel
theorem dX14_isOnePiece_86 : decode prog_13_method_37_code 86 = .ok (.ifCond .eq 91, 3) := by decide +kernel
theorem dX14_isOnePiece_89 : decode prog_13_method_37_code 89 = .ok (.aload_n 1, 1) := by decide +kernel
theorem dX14_isOnePiece_90 : decode prog_13_method_37_code 90 = .ok (.iload 5, 2) := by decide +kernel
theorem dX14_isOnePiece_92 : decode prog_13_method_37_code 92 = .ok (.aload_n 1, 1) := by decide +kernel
theorem dX14_isOnePiece_93 : decode prog_13_method_37_code 93 = .ok (.getfield 30, 3) := by decide +kernel
theorem dX14_isOnePiece_96 : decode prog_13_method_37_code 96 = .ok (.iload_n 2, 1) := by decide +kernel
theorem dX14_isOnePiece_97 : decode prog_13_method_37_code 97 = .ok (.iaload, 1) := by decide +kernel
theorem dX14_isOnePiece_98 : decode prog_13_method_37_code 98 = .ok (.aload_n 1, 1) := by decide +kernel
theorem dX14_isOnePiece_99 : decode prog_13_method_37_code 99 = .ok (.getfield 36, 3) := by decide +kernel
theorem dX14_isOnePiece_102 : decode prog_13_method_37_code 102 = .ok (.iload_n 2, 1) := by decide +kernel
theorem dX14_isOnePiece_103 : decode prog_13_method_37_code 103 = .ok (.iaload, 1) := by decide +kernel
theorem dX14_isOnePiece_104 : decode prog_13_method_37_code 104 = .ok (.invokestatic 268, 3) := by decide +kernel
theorem dX14_isOnePiece_107 : decode prog_13_method_37_code 107 = .ok (.ifCond .ne 6, 3) := by decide +kernel
theorem dX14_isOnePiece_110 : decode prog_13_method_37_code 110 = .ok (.goto 61, 3) := by decide +kernel
theorem dX14_isOnePiece_113 : decode prog_13_method_37_code 113 = .ok (.iload 4, 2) := by decide +kernel
theorem dX14_isOnePiece_115 : decode prog_13_method_37_code 115 = .ok (.ifCond .lt 22, 3) := by decide +kernel
theorem dX14_isOnePiece_118 : decode prog_13_method_37_code 118 = .ok (.aload_n 0, 1) := by decide +kernel
theorem dX14_isOnePiece_119 : decode prog_13_method_37_code 119 = .ok (.getfield 265, 3) := by decide +kernel
theorem dX14_isOnePiece_122 : decode prog_13_method_37_code 122 = .ok (.iload 5, 2) := by decide +kernel
theorem dX14_isOnePiece_124 : decode prog_13_method_37_code 124 = .ok (.iaload, 1) := by decide +kernel
theorem dX14_isOnePiece_125 : decode prog_13_method_37_code 125 = .ok (.aload_n 0, 1) := by decide +kernel
theorem dX14_isOnePiece_126 : decode prog_13_method_37_code 126 = .ok (.getfield 265, 3) := by decide +kernel
theorem dX14_isOnePiece_129 : decode prog_13_method_37_code 129 = .ok (.iload 4, 2) := by decide +kernel
theorem dX14_isOnePiece_131 : decode prog_13_method_37_code 131 = .ok (.iaload, 1) := by decide +kernel
theorem dX14_isOnePiece_132 : decode prog_13_method_37_code 132 = .ok (.if_icmp .ne 5, 3) := by decide +kernel
theorem dX14_isOnePiece_135 : decode prog_13_method_37_code 135 = .ok (.iconst 0, 1) := by decide +kernel
theorem dX14_isOnePiece_136 : decode prog_13_method_37_code 136 = .ok (.ireturn, 1) := by decide +kernel
theorem dX14_isOnePiece_137 : decode prog_13_method_37_code 137 = .ok (.iload 4, 2) := by decide +kernel
theorem dX14_isOnePiece_139 : decode prog_13_method_37_code 139 = .ok (.ifCond .ge 10, 3) := by decide +kernel
theorem dX14_isOnePiece_142 : decode prog_13_method_37_code 142 = .ok (.iload 5, 2) := by decide +kernel
theorem dX14_isOnePiece_144 : decode prog_13_method_37_code 144 = .ok (.istore 4, 2) := by decide +kernel
theorem dX14_isOnePiece_146 : decode prog_13_method_37_code 146 = .ok (.goto 25, 3) := by decide +kernel
theorem dX14_isOnePiece_149 : decode prog_13_method_37_code 149 = .ok (.aload_n 0, 1) := by decide +kernel
theorem dX14_isOnePiece_150 : decode prog_13_method_37_code 150 = .ok (.aload_n 0, 1) := by decide +kernel
theorem dX14_isOnePiece_151 : decode prog_13_method_37_code 151 = .ok (.getfield 265, 3) := by decide +kernel
theorem dX14_isOnePiece_154 : decode prog_13_method_37_code 154 = .ok (.iload 5, 2) := by decide +kernel
theorem dX14_isOnePiece_156 : decode prog_13_method_37_code 156 = .ok (.iaload, 1) := by decide +kernel
theorem dX14_isOnePiece_157 : decode prog_13_method_37_code 157 = .ok (.aload_n 0, 1) := by decide +kernel
theorem dX14_isOnePiece_158 : decode prog_13_method_37_code 158 = .ok (.getfield 265, 3) := by decide +kernel
theorem dX14_isOnePiece_161 : decode prog_13_method_37_code 161 = .ok (.iload 4, 2) := by decide +kernel
theorem dX14_isOnePiece_163 : decode prog_13_method_37_code 163 = .ok (.iaload, 1) := by decide +kernel
theorem dX14_isOnePiece_164 : decode prog_13_method_37_code 164 = .ok (.aload_n 1, 1) := by decide +kernel
theorem dX14_isOnePiece_165 : decode prog_13_method_37_code 165 = .ok (.getfield 180, 3) := by decide +kernel
theorem dX14_isOnePiece_168 : decode prog_13_method_37_code 168 = .ok (.invokevirtual 271, 3) := by decide +kernel
theorem dX14_isOnePiece_171 : decode prog_13_method_37_code 171 = .ok (.iinc 5 1, 3) := by decide +kernel
theorem dX14_isOnePiece_174 : decode prog_13_method_37_code 174 = .ok (.goto (-98), 3) := by decide +kernel
theorem dX14_isOnePiece_177 : decode prog_13_method_37_code 177 = .ok (.iinc 2 1, 3) := by decide +kernel
theorem dX14_isOnePiece_180 : decode prog_13_method_37_code 180 = .ok (.goto (-155), 3) := by decide +kernel
theorem dX14_isOnePiece_183 : decode prog_13_method_37_code 183 = .ok (.iconst 1, 1) := by decide +kernel
theorem dX14_isOnePiece_184 : decode prog_13_method_37_code 184 = .ok (.ireturn, 1) := by decide +kernel
theorem dX14_join_0 : decode prog_13_method_38_code 0 = .ok (.iconst 0, 1) := by decide +kernel
theorem dX14_join_1 : decode prog_13_method_38_code 1 = .ok (.istore 4, 2) := by decide +kernel
theorem dX14_join_3 : decode prog_13_method_38_code 3 = .ok (.iload 4, 2) := by decide +kernel
theorem dX14_join_5 : decode prog_13_method_38_code 5 = .ok (.iload_n 3, 1) := by decide +kernel
theorem dX14_join_6 : decode prog_13_method_38_code 6 = .ok (.if_icmp .ge 28, 3) := by decide +kernel
theorem dX14_join_9 : decode prog_13_method_38_code 9 = .ok (.aload_n 0, 1) := by decide +kernel
theorem dX14_join_10 : decode prog_13_method_38_code 10 = .ok (.getfield 265, 3) := by decide +kernel
theorem dX14_join_13 : decode prog_13_method_38_code 13 = .ok (.iload 4, 2) := by decide +kernel
theorem dX14_join_15 : decode prog_13_method_38_code 15 = .ok (.iaload, 1) := by decide +kernel
theorem dX14_join_16 : decode prog_13_method_38_code 16 = .ok (.iload_n 1, 1) := by decide +kernel
theorem dX14_join_17 : decode prog_13_method_38_code 17 = .ok (.if_icmp .ne 11, 3) := by decide +kernel
theorem dX14_join_20 : decode prog_13_method_38_code 20 = .ok (.aload_n 0, 1) := by decide +kernel
theorem dX14_join_21 : decode prog_13_method_38_code 21 = .ok (.getfield 265, 3) := by decide +kernel
theorem dX14_join_24 : decode prog_13_method_38_code 24 = .ok (.iload 4, 2) := by decide +kernel
theorem dX14_join_26 : decode prog_13_method_38_code 26 = .ok (.iload_n 2, 1) := by decide +kernel
theorem dX14_join_27 : decode prog_13_method_38_code 27 = .ok (.iastore, 1) := by decide +kernel
theorem dX14_join_28 : decode prog_13_method_38_code 28 = .ok (.iinc 4 1, 3) := by decide +kernel
theorem dX14_join_31 : decode prog_13_method_38_code 31 = .ok (.goto (-28), 3) := by decide +kernel
theorem dX14_join_34 : decode prog_13_method_38_code 34 = .ok (.return_, 1) := by decide +kernel
theorem dX14_isValid_0 : decode prog_13_method_39_code 0 = .ok (.aload_n 1, 1) := by decide +kernel
theorem dX14_isValid_1 : decode prog_13_method_39_code 1 = .ok (.getfield 75, 3) := by decide +kernel
theorem dX14_isValid_4 : decode prog_13_method_39_code 4 = .ok (.ifCond .ne 5, 3) := by decide +kernel
theorem dX14_isValid_7 : decode prog_13_method_39_code 7 = .ok (.iconst 1, 1) := by decide +kernel
theorem dX14_isValid_8 : decode prog_13_method_39_code 8 = .ok (.ireturn, 1) := by decide +kernel
theorem dX14_isValid_9 : decode prog_13_method_39_code 9 = .ok (.aload_n 1, 1) := by decide +kernel
theorem dX14_isValid_10 : decode prog_13_method_39_code 10 = .ok (.invokestatic 275, 3) := by decide +kernel
theorem dX14_isValid_13 : decode prog_13_method_39_code 13 = .ok (.ifCond .ne 5, 3) := by decide +kernel
theorem dX14_isValid_16 : decode prog_13_method_39_code 16 = .ok (.iconst 0, 1) := by decide +kernel
theorem dX14_isValid_17 : decode prog_13_method_39_code 17 = .ok (.ireturn, 1) := by decide +kernel
theorem dX14_isValid_18 : decode prog_13_method_39_code 18 = .ok (.aload_n 1, 1) := by decide +kernel
theorem dX14_isValid_19 : decode prog_13_method_39_code 19 = .ok (.getfield 75, 3) := by decide +kernel
theorem dX14_isValid_22 : decode prog_13_method_39_code 22 = .ok (.iconst 1, 1) := by decide +kernel
theorem dX14_isValid_23 : decode prog_13_method_39_code 23 = .ok (.if_icmp .ne 17, 3) := by decide +kernel
theorem dX14_isValid_26 : decode prog_13_method_39_code 26 = .ok (.aload_n 1, 1) := by decide +kernel
theorem dX14_isValid_27 : decode prog_13_method_39_code 27 = .ok (.getfield 79, 3) := by decide +kernel
theorem dX14_isValid_30 : decode prog_13_method_39_code 30 = .ok (.iconst 2, 1) := by decide +kernel
theorem dX14_isValid_31 : decode prog_13_method_39_code 31 = .ok (.if_icmp .lt 7, 3) := by decide +kernel
theorem dX14_isValid_34 : decode prog_13_method_39_code 34 = .ok (.iconst 1, 1) := by decide +kernel
theorem dX14_isValid_35 : decode prog_13_method_39_code 35 = .ok (.goto 4, 3) := by decide +kernel
theorem dX14_isValid_38 : decode prog_13_method_39_code 38 = .ok (.iconst 0, 1) := by decide +kernel
theorem dX14_isValid_39 : decode prog_13_method_39_code 39 = .ok (.ireturn, 1) := by decide +kernel
theorem dX14_isValid_40 : decode prog_13_method_39_code 40 = .ok (.iconst 0, 1) := by decide +kernel
theorem dX14_isValid_41 : decode prog_13_method_39_code 41 = .ok (.istore_n 2, 1) := by decide +kernel
theorem dX14_isValid_42 : decode prog_13_method_39_code 42 = .ok (.iload_n 2, 1) := by decide +kernel
theorem dX14_isValid_43 : decode prog_13_method_39_code 43 = .ok (.aload_n 1, 1) := by decide +kernel
theorem dX14_isValid_44 : decode prog_13_method_39_code 44 = .ok (.getfield 180, 3) := by decide +kernel
theorem dX14_isValid_47 : decode prog_13_method_39_code 47 = .ok (.if_icmp .ge 53, 3) := by decide +kernel
theorem dX14_isValid_50 : decode prog_13_method_39_code 50 = .ok (.aload_n 1, 1) := by decide +kernel
theorem dX14_isValid_51 : decode prog_13_method_39_code 51 = .ok (.iload_n 2, 1) := by decide +kernel
theorem dX14_isValid_52 : decode prog_13_method_39_code 52 = .ok (.invokevirtual 64, 3) := by decide +kernel
theorem dX14_isValid_55 : decode prog_13_method_39_code 55 = .ok (.istore_n 3, 1) := by decide +kernel
theorem dX14_isValid_56 : decode prog_13_method_39_code 56 = .ok (.aload_n 1, 1) := by decide +kernel
theorem dX14_isValid_57 : decode prog_13_method_39_code 57 = .ok (.getfield 68, 3) := by decide +kernel
theorem dX14_isValid_60 : decode prog_13_method_39_code 60 = .ok (.iload_n 2, 1) := by decide +kernel
theorem dX14_isValid_61 : decode prog_13_method_39_code 61 = .ok (.iaload, 1) := by decide +kernel
theorem dX14_isValid_62 : decode prog_13_method_39_code 62 = .ok (.iload_n 3, 1) := by decide +kernel
theorem dX14_isValid_63 : decode prog_13_method_39_code 63 = .ok (.isub, 1) := by decide +kernel
theorem dX14_isValid_64 : decode prog_13_method_39_code 64 = .ok (.iconst 4, 1) := by decide +kernel
theorem dX14_isValid_65 : decode prog_13_method_39_code 65 = .ok (.if_icmp .lt 27, 3) := by decide +kernel
theorem dX14_isValid_68 : decode prog_13_method_39_code 68 = .ok (.aload_n 1, 1) := by decide +kernel
theorem dX14_isValid_69 : decode prog_13_method_39_code 69 = .ok (.iload_n 3, 1) := by decide +kernel
theorem dX14_isValid_70 : decode prog_13_method_39_code 70 = .ok (.aload_n 1, 1) := by decide +kernel
theorem dX14_isValid_71 : decode prog_13_method_39_code 71 = .ok (.getfield 68, 3) := by decide +kernel
theorem dX14_isValid_74 : decode prog_13_method_39_code 74 = .ok (.iload_n 2, 1) := by decide +kernel
theorem dX14_isValid_75 : decode prog_13_method_39_code 75 = .ok (.iaload, 1) := by decide +kernel
theorem dX14_isValid_76 : decode prog_13_method_39_code 76 = .ok (.iconst 1, 1) := by decide +kernel
theorem dX14_isValid_77 : decode prog_13_method_39_code 77 = .ok (.isub, 1) := by decide +kernel
theorem dX14_isValid_78 : decode prog_13_method_39_code 78 = .ok (.invokevirtual 250, 3) := by decide +kernel
theorem dX14_isValid_81 : decode prog_13_method_39_code 81 = .ok (.ifCond .eq 11, 3) := by decide +kernel
theorem dX14_isValid_84 : decode prog_13_method_39_code 84 = .ok (.aload_n 1, 1) := by decide +kernel
theorem dX14_isValid_85 : decode prog_13_method_39_code 85 = .ok (.iload_n 2, 1) := by decide +kernel
theorem dX14_isValid_86 : decode prog_13_method_39_code 86 = .ok (.invokestatic 279, 3) := by decide +kernel
theorem dX14_isValid_89 : decode prog_13_method_39_code 89 = .ok (.ifCond .ne 5, 3) := by decide +kernel
theorem dX14_isValid_92 : decode prog_13_method_39_code 92 = .ok (.iconst 0, 1) := by decide +kernel
theorem dX14_isValid_93 : decode prog_13_method_39_code 93 = .ok (.ireturn, 1) := by decide +kernel
theorem dX14_isValid_94 : decode prog_13_method_39_code 94 = .ok (.iinc 2 1, 3) := by decide +kernel
theorem dX14_isValid_97 : decode prog_13_method_39_code 97 = .ok (.goto (-55), 3) := by decide +kernel
theorem dX14_isValid_100 : decode prog_13_method_39_code 100 = .ok (.aload_n 0, 1) := by decide +kernel
theorem dX14_isValid_101 : decode prog_13_method_39_code 101 = .ok (.aload_n 1, 1) := by decide +kernel
theorem dX14_isValid_102 : decode prog_13_method_39_code 102 = .ok (.invokevirtual 282, 3) := by decide +kernel
theorem dX14_isValid_105 : decode prog_13_method_39_code 105 = .ok (.ifCond .eq 15, 3) := by decide +kernel
theorem dX14_isValid_108 : decode prog_13_method_39_code 108 = .ok (.aload_n 0, 1) := by decide +kernel
theorem dX14_isValid_109 : decode prog_13_method_39_code 109 = .ok (.aload_n 1, 1) := by decide +kernel
theorem dX14_isValid_110 : decode prog_13_method_39_code 110 = .ok (.invokevirtual 285, 3) := by decide +kernel
theorem dX14_isValid_113 : decode prog_13_method_39_code 113 = .ok (.ifCond .eq 7, 3) := by decide +kernel
theorem dX14_isValid_116 : decode prog_13_method_39_code 116 = .ok (.iconst 1, 1) := by decide +kernel
theorem dX14_isValid_117 : decode prog_13_method_39_code 117 = .ok (.goto 4, 3) := by decide +kernel
theorem dX14_isValid_120 : decode prog_13_method_39_code 120 = .ok (.iconst 0, 1) := by decide +kernel
theorem dX14_isValid_121 : decode prog_13_method_39_code 121 = .ok (.ireturn, 1) := by decide +kernel
theorem dX14_compare___0 : decode prog_13_method_40_code 0 = .ok (.aload_n 0, 1) := by decide +kernel
theorem dX14_compare___1 : decode prog_13_method_40_code 1 = .ok (.getfield 16, 3) := by decide +kernel
theorem dX14_compare___4 : decode prog_13_method_40_code 4 = .ok (.aload_n 1, 1) := by decide +kernel
theorem dX14_compare___5 : decode prog_13_method_40_code 5 = .ok (.getfield 288, 3) := by decide +kernel
theorem dX14_compare___8 : decode prog_13_method_40_code 8 = .ok (.aload_n 2, 1) := by decide +kernel
theorem dX14_compare___9 : decode prog_13_method_40_code 9 = .ok (.getfield 293, 3) := by decide +kernel
theorem dX14_compare___12 : decode prog_13_method_40_code 12 = .ok (.invokestatic 19, 3) := by decide +kernel
theorem dX14_compare___15 : decode prog_13_method_40_code 15 = .ok (.aload_n 0, 1) := by decide +kernel
theorem dX14_compare___16 : decode prog_13_method_40_code 16 = .ok (.getfield 23, 3) := by decide +kernel
theorem dX14_compare___19 : decode prog_13_method_40_code 19 = .ok (.aload_n 2, 1) := by decide +kernel
theorem dX14_compare___20 : decode prog_13_method_40_code 20 = .ok (.getfield 288, 3) := by decide +kernel
theorem dX14_compare___23 : decode prog_13_method_40_code 23 = .ok (.aload_n 1, 1) := by decide +kernel
theorem dX14_compare___24 : decode prog_13_method_40_code 24 = .ok (.getfield 293, 3) := by decide +kernel
theorem dX14_compare___27 : decode prog_13_method_40_code 27 = .ok (.invokestatic 19, 3) := by decide +kernel
theorem dX14_compare___30 : decode prog_13_method_40_code 30 = .ok (.aload_n 0, 1) := by decide +kernel
theorem dX14_compare___31 : decode prog_13_method_40_code 31 = .ok (.getfield 16, 3) := by decide +kernel
theorem dX14_compare___34 : decode prog_13_method_40_code 34 = .ok (.aload_n 0, 1) := by decide +kernel
theorem dX14_compare___35 : decode prog_13_method_40_code 35 = .ok (.getfield 23, 3) := by decide +kernel
theorem dX14_compare___38 : decode prog_13_method_40_code 38 = .ok (.invokestatic 26, 3) := by decide +kernel
theorem dX14_compare___41 : decode prog_13_method_40_code 41 = .ok (.ireturn, 1) := by decide +kernel
theorem dX14_hereIs_0 : decode prog_13_method_41_code 0 = .ok (.aload_n 0, 1) := by decide +kernel
theorem dX14_hereIs_1 : decode prog_13_method_41_code 1 = .ok (.getfield 296, 3) := by decide +kernel
theorem dX14_hereIs_4 : decode prog_13_method_41_code 4 = .ok (.getfield 288, 3) := by decide +kernel
theorem dX14_hereIs_7 : decode prog_13_method_41_code 7 = .ok (.lload_n 1, 1) := by decide +kernel
theorem dX14_hereIs_8 : decode prog_13_method_41_code 8 = .ok (.invokestatic 9, 3) := by decide +kernel
theorem dX14_hereIs_11 : decode prog_13_method_41_code 11 = .ok (.aload_n 0, 1) := by decide +kernel
theorem dX14_hereIs_12 : decode prog_13_method_41_code 12 = .ok (.getfield 296, 3) := by decide +kernel
theorem dX14_hereIs_15 : decode prog_13_method_41_code 15 = .ok (.getfield 293, 3) := by decide +kernel
theorem dX14_hereIs_18 : decode prog_13_method_41_code 18 = .ok (.lload_n 3, 1) := by decide +kernel
theorem dX14_hereIs_19 : decode prog_13_method_41_code 19 = .ok (.invokestatic 9, 3) := by decide +kernel
theorem dX14_hereIs_22 : decode prog_13_method_41_code 22 = .ok (.return_, 1) := by decide +kernel
theorem dX14_fromPoint_0 : decode prog_13_method_42_code 0 = .ok (.aload_n 0, 1) := by decide +kernel
theorem dX14_fromPoint_1 : decode prog_13_method_42_code 1 = .ok (.lload_n 1, 1) := by decide +kernel
theorem dX14_fromPoint_2 : decode prog_13_method_42_code 2 = .ok (.lload_n 3, 1) := by decide +kernel
theorem dX14_fromPoint_3 : decode prog_13_method_42_code 3 = .ok (.lload_n 1, 1) := by decide +kernel
theorem dX14_fromPoint_4 : decode prog_13_method_42_code 4 = .ok (.lload_n 3, 1) := by decide +kernel
theorem dX14_fromPoint_5 : decode prog_13_method_42_code 5 = .ok (.invokestatic 123, 3) := by decide +kernel
theorem dX14_fromPoint_8 : decode prog_13_method_42_code 8 = .ok (.lconst 1, 1) := by decide +kernel
theorem dX14_fromPoint_9 : decode prog_13_method_42_code 9 = .ok (.invokevirtual 300, 3) := by decide +kernel
theorem dX14_fromPoint_12 : decode prog_13_method_42_code 12 = .ok (.return_, 1) := by decide +kernel
theorem dX14_fromWay_0 : decode prog_13_method_43_code 0 = .ok (.aload_n 1, 1) := by decide +kernel
theorem dX14_fromWay_1 : decode prog_13_method_43_code 1 = .ok (.getfield 30, 3) := by decide +kernel
theorem dX14_fromWay_4 : decode prog_13_method_43_code 4 = .ok (.iload_n 2, 1) := by decide +kernel
theorem dX14_fromWay_5 : decode prog_13_method_43_code 5 = .ok (.iconst 1, 1) := by decide +kernel
theorem dX14_fromWay_6 : decode prog_13_method_43_code 6 = .ok (.iadd, 1) := by decide +kernel
theorem dX14_fromWay_7 : decode prog_13_method_43_code 7 = .ok (.iaload, 1) := by decide +kernel
theorem dX14_fromWay_8 : decode prog_13_method_43_code 8 = .ok (.i2l, 1) := by decide +kernel
theorem dX14_fromWay_9 : decode prog_13_method_43_code 9 = .ok (.aload_n 1, 1) := by decide +kernel
