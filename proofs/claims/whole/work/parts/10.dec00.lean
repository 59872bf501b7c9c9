theorem dX0_init_0 : decode prog_2_method_1_code 0 = .ok (.aload_n 0, 1) := by decide +kernel
theorem dX0_init_1 : decode prog_2_method_1_code 1 = .ok (.invokespecial 3, 3) := by decide +kernel
theorem dX0_init_4 : decode prog_2_method_1_code 4 = .ok (.aload_n 0, 1) := by decide +kernel
theorem dX0_init_5 : decode prog_2_method_1_code 5 = .ok (.aload_n 1, 1) := by decide +kernel
theorem dX0_init_6 : decode prog_2_method_1_code 6 = .ok (.putfield 9, 3) := by decide +kernel
theorem dX0_init_9 : decode prog_2_method_1_code 9 = .ok (.aload_n 0, 1) := by decide +kernel
theorem dX0_init_10 : decode prog_2_method_1_code 10 = .ok (.bipush 8, 2) := by decide +kernel
theorem dX0_init_12 : decode prog_2_method_1_code 12 = .ok (.newarray .int, 2) := by decide +kernel
theorem dX0_init_14 : decode prog_2_method_1_code 14 = .ok (.putfield 15, 3) := by decide +kernel
theorem dX0_init_17 : decode prog_2_method_1_code 17 = .ok (.return_, 1) := by decide +kernel
theorem dX0_isValid_0 : decode prog_2_method_2_code 0 = .ok (.aload_n 1, 1) := by decide +kernel
theorem dX0_isValid_1 : decode prog_2_method_2_code 1 = .ok (.getfield 19, 3) := by decide +kernel
theorem dX0_isValid_4 : decode prog_2_method_2_code 4 = .ok (.ifCond .ne 17, 3) := by decide +kernel
theorem dX0_isValid_7 : decode prog_2_method_2_code 7 = .ok (.aload_n 1, 1) := by decide +kernel
theorem dX0_isValid_8 : decode prog_2_method_2_code 8 = .ok (.getfield 25, 3) := by decide +kernel
theorem dX0_isValid_11 : decode prog_2_method_2_code 11 = .ok (.iconst 1, 1) := by decide +kernel
theorem dX0_isValid_12 : decode prog_2_method_2_code 12 = .ok (.if_icmp .ne 7, 3) := by decide +kernel
theorem dX0_isValid_15 : decode prog_2_method_2_code 15 = .ok (.iconst 1, 1) := by decide +kernel
theorem dX0_isValid_16 : decode prog_2_method_2_code 16 = .ok (.goto 4, 3) := by decide +kernel
theorem dX0_isValid_19 : decode prog_2_method_2_code 19 = .ok (.iconst 0, 1) := by decide +kernel
theorem dX0_isValid_20 : decode prog_2_method_2_code 20 = .ok (.ireturn, 1) := by decide +kernel
theorem dX0_isValid_21 : decode prog_2_method_2_code 21 = .ok (.aload_n 1, 1) := by decide +kernel
theorem dX0_isValid_22 : decode prog_2_method_2_code 22 = .ok (.getfield 19, 3) := by decide +kernel
theorem dX0_isValid_25 : decode prog_2_method_2_code 25 = .ok (.iconst 1, 1) := by decide +kernel
theorem dX0_isValid_26 : decode prog_2_method_2_code 26 = .ok (.if_icmp .ne 29, 3) := by decide +kernel
theorem dX0_isValid_29 : decode prog_2_method_2_code 29 = .ok (.aload_n 1, 1) := by decide +kernel
theorem dX0_isValid_30 : decode prog_2_method_2_code 30 = .ok (.getfield 25, 3) := by decide +kernel
theorem dX0_isValid_33 : decode prog_2_method_2_code 33 = .ok (.iconst 2, 1) := by decide +kernel
theorem dX0_isValid_34 : decode prog_2_method_2_code 34 = .ok (.if_icmp .lt 19, 3) := by decide +kernel
theorem dX0_isValid_37 : decode prog_2_method_2_code 37 = .ok (.aload_n 1, 1) := by decide +kernel
theorem dX0_isValid_38 : decode prog_2_method_2_code 38 = .ok (.iconst 0, 1) := by decide +kernel
theorem dX0_isValid_39 : decode prog_2_method_2_code 39 = .ok (.aload_n 1, 1) := by decide +kernel
theorem dX0_isValid_40 : decode prog_2_method_2_code 40 = .ok (.getfield 25, 3) := by decide +kernel
theorem dX0_isValid_43 : decode prog_2_method_2_code 43 = .ok (.invokestatic 28, 3) := by decide +kernel
theorem dX0_isValid_46 : decode prog_2_method_2_code 46 = .ok (.ifCond .ne 7, 3) := by decide +kernel
theorem dX0_isValid_49 : decode prog_2_method_2_code 49 = .ok (.iconst 1, 1) := by decide +kernel
theorem dX0_isValid_50 : decode prog_2_method_2_code 50 = .ok (.goto 4, 3) := by decide +kernel
theorem dX0_isValid_53 : decode prog_2_method_2_code 53 = .ok (.iconst 0, 1) := by decide +kernel
theorem dX0_isValid_54 : decode prog_2_method_2_code 54 = .ok (.ireturn, 1) := by decide +kernel
theorem dX0_isValid_55 : decode prog_2_method_2_code 55 = .ok (.iconst 0, 1) := by decide +kernel
theorem dX0_isValid_56 : decode prog_2_method_2_code 56 = .ok (.istore_n 2, 1) := by decide +kernel
theorem dX0_isValid_57 : decode prog_2_method_2_code 57 = .ok (.iload_n 2, 1) := by decide +kernel
theorem dX0_isValid_58 : decode prog_2_method_2_code 58 = .ok (.aload_n 1, 1) := by decide +kernel
theorem dX0_isValid_59 : decode prog_2_method_2_code 59 = .ok (.getfield 32, 3) := by decide +kernel
theorem dX0_isValid_62 : decode prog_2_method_2_code 62 = .ok (.if_icmp .ge 29, 3) := by decide +kernel
theorem dX0_isValid_65 : decode prog_2_method_2_code 65 = .ok (.aload_n 1, 1) := by decide +kernel
theorem dX0_isValid_66 : decode prog_2_method_2_code 66 = .ok (.aload_n 1, 1) := by decide +kernel
theorem dX0_isValid_67 : decode prog_2_method_2_code 67 = .ok (.iload_n 2, 1) := by decide +kernel
theorem dX0_isValid_68 : decode prog_2_method_2_code 68 = .ok (.invokevirtual 35, 3) := by decide +kernel
theorem dX0_isValid_71 : decode prog_2_method_2_code 71 = .ok (.aload_n 1, 1) := by decide +kernel
theorem dX0_isValid_72 : decode prog_2_method_2_code 72 = .ok (.getfield 39, 3) := by decide +kernel
theorem dX0_isValid_75 : decode prog_2_method_2_code 75 = .ok (.iload_n 2, 1) := by decide +kernel
theorem dX0_isValid_76 : decode prog_2_method_2_code 76 = .ok (.iaload, 1) := by decide +kernel
theorem dX0_isValid_77 : decode prog_2_method_2_code 77 = .ok (.invokestatic 42, 3) := by decide +kernel
theorem dX0_isValid_80 : decode prog_2_method_2_code 80 = .ok (.ifCond .ne 5, 3) := by decide +kernel
theorem dX0_isValid_83 : decode prog_2_method_2_code 83 = .ok (.iconst 0, 1) := by decide +kernel
theorem dX0_isValid_84 : decode prog_2_method_2_code 84 = .ok (.ireturn, 1) := by decide +kernel
theorem dX0_isValid_85 : decode prog_2_method_2_code 85 = .ok (.iinc 2 1, 3) := by decide +kernel
theorem dX0_isValid_88 : decode prog_2_method_2_code 88 = .ok (.goto (-31), 3) := by decide +kernel
theorem dX0_isValid_91 : decode prog_2_method_2_code 91 = .ok (.aload_n 1, 1) := by decide +kernel
theorem dX0_isValid_92 : decode prog_2_method_2_code 92 = .ok (.getfield 32, 3) := by decide +kernel
theorem dX0_isValid_95 : decode prog_2_method_2_code 95 = .ok (.iconst 1, 1) := by decide +kernel
theorem dX0_isValid_96 : decode prog_2_method_2_code 96 = .ok (.if_icmp .lt 23, 3) := by decide +kernel
theorem dX0_isValid_99 : decode prog_2_method_2_code 99 = .ok (.aload_n 0, 1) := by decide +kernel
theorem dX0_isValid_100 : decode prog_2_method_2_code 100 = .ok (.aload_n 1, 1) := by decide +kernel
theorem dX0_isValid_101 : decode prog_2_method_2_code 101 = .ok (.invokevirtual 45, 3) := by decide +kernel
theorem dX0_isValid_104 : decode prog_2_method_2_code 104 = .ok (.ifCond .eq 15, 3) := by decide +kernel
theorem dX0_isValid_107 : decode prog_2_method_2_code 107 = .ok (.aload_n 0, 1) := by decide +kernel
theorem dX0_isValid_108 : decode prog_2_method_2_code 108 = .ok (.aload_n 1, 1) := by decide +kernel
theorem dX0_isValid_109 : decode prog_2_method_2_code 109 = .ok (.invokevirtual 49, 3) := by decide +kernel
theorem dX0_isValid_112 : decode prog_2_method_2_code 112 = .ok (.ifCond .eq 7, 3) := by decide +kernel
theorem dX0_isValid_115 : decode prog_2_method_2_code 115 = .ok (.iconst 1, 1) := by decide +kernel
theorem dX0_isValid_116 : decode prog_2_method_2_code 116 = .ok (.goto 4, 3) := by decide +kernel
theorem dX0_isValid_119 : decode prog_2_method_2_code 119 = .ok (.iconst 0, 1) := by decide +kernel
theorem dX0_isValid_120 : decode prog_2_method_2_code 120 = .ok (.ireturn, 1) := by decide +kernel
theorem dX0_hasPauses_0 : decode prog_2_method_3_code 0 = .ok (.iload_n 1, 1) := by decide +kernel
theorem dX0_hasPauses_1 : decode prog_2_method_3_code 1 = .ok (.istore_n 3, 1) := by decide +kernel
theorem dX0_hasPauses_2 : decode prog_2_method_3_code 2 = .ok (.iload_n 3, 1) := by decide +kernel
theorem dX0_hasPauses_3 : decode prog_2_method_3_code 3 = .ok (.iconst 1, 1) := by decide +kernel
theorem dX0_hasPauses_4 : decode prog_2_method_3_code 4 = .ok (.iadd, 1) := by decide +kernel
theorem dX0_hasPauses_5 : decode prog_2_method_3_code 5 = .ok (.iload_n 2, 1) := by decide +kernel
theorem dX0_hasPauses_6 : decode prog_2_method_3_code 6 = .ok (.if_icmp .ge 22, 3) := by decide +kernel
theorem dX0_hasPauses_9 : decode prog_2_method_3_code 9 = .ok (.aload_n 0, 1) := by decide +kernel
theorem dX0_hasPauses_10 : decode prog_2_method_3_code 10 = .ok (.iload_n 3, 1) := by decide +kernel
theorem dX0_hasPauses_11 : decode prog_2_method_3_code 11 = .ok (.iload_n 3, 1) := by decide +kernel
theorem dX0_hasPauses_12 : decode prog_2_method_3_code 12 = .ok (.iconst 1, 1) := by decide +kernel
theorem dX0_hasPauses_13 : decode prog_2_method_3_code 13 = .ok (.iadd, 1) := by decide +kernel
theorem dX0_hasPauses_14 : decode prog_2_method_3_code 14 = .ok (.invokevirtual 52, 3) := by decide +kernel
theorem dX0_hasPauses_17 : decode prog_2_method_3_code 17 = .ok (.ifCond .eq 5, 3) := by decide +kernel
theorem dX0_hasPauses_20 : decode prog_2_method_3_code 20 = .ok (.iconst 1, 1) := by decide +kernel
theorem dX0_hasPauses_21 : decode prog_2_method_3_code 21 = .ok (.ireturn, 1) := by decide +kernel
theorem dX0_hasPauses_22 : decode prog_2_method_3_code 22 = .ok (.iinc 3 1, 3) := by decide +kernel
theorem dX0_hasPauses_25 : decode prog_2_method_3_code 25 = .ok (.goto (-23), 3) := by decide +kernel
theorem dX0_hasPauses_28 : decode prog_2_method_3_code 28 = .ok (.iconst 0, 1) := by decide +kernel
theorem dX0_hasPauses_29 : decode prog_2_method_3_code 29 = .ok (.ireturn, 1) := by decide +kernel
theorem dX0_isRing_0 : decode prog_2_method_4_code 0 = .ok (.iload_n 2, 1) := by decide +kernel
theorem dX0_isRing_1 : decode prog_2_method_4_code 1 = .ok (.iload_n 1, 1) := by decide +kernel
theorem dX0_isRing_2 : decode prog_2_method_4_code 2 = .ok (.isub, 1) := by decide +kernel
theorem dX0_isRing_3 : decode prog_2_method_4_code 3 = .ok (.iconst 4, 1) := by decide +kernel
theorem dX0_isRing_4 : decode prog_2_method_4_code 4 = .ok (.if_icmp .lt 23, 3) := by decide +kernel
theorem dX0_isRing_7 : decode prog_2_method_4_code 7 = .ok (.aload_n 0, 1) := by decide +kernel
theorem dX0_isRing_8 : decode prog_2_method_4_code 8 = .ok (.iload_n 1, 1) := by decide +kernel
theorem dX0_isRing_9 : decode prog_2_method_4_code 9 = .ok (.iload_n 2, 1) := by decide +kernel
theorem dX0_isRing_10 : decode prog_2_method_4_code 10 = .ok (.iconst 1, 1) := by decide +kernel
theorem dX0_isRing_11 : decode prog_2_method_4_code 11 = .ok (.isub, 1) := by decide +kernel
theorem dX0_isRing_12 : decode prog_2_method_4_code 12 = .ok (.invokevirtual 52, 3) := by decide +kernel
theorem dX0_isRing_15 : decode prog_2_method_4_code 15 = .ok (.ifCond .eq 12, 3) := by decide +kernel
theorem dX0_isRing_18 : decode prog_2_method_4_code 18 = .ok (.aload_n 0, 1) := by decide +kernel
theorem dX0_isRing_19 : decode prog_2_method_4_code 19 = .ok (.iload_n 1, 1) := by decide +kernel
theorem dX0_isRing_20 : decode prog_2_method_4_code 20 = .ok (.iload_n 2, 1) := by decide +kernel
theorem dX0_isRing_21 : decode prog_2_method_4_code 21 = .ok (.invokestatic 28, 3) := by decide +kernel
theorem dX0_isRing_24 : decode prog_2_method_4_code 24 = .ok (.ifCond .eq 5, 3) := by decide +kernel
theorem dX0_isRing_27 : decode prog_2_method_4_code 27 = .ok (.iconst 0, 1) := by decide +kernel
theorem dX0_isRing_28 : decode prog_2_method_4_code 28 = .ok (.ireturn, 1) := by decide +kernel
theorem dX0_isRing_29 : decode prog_2_method_4_code 29 = .ok (.iload_n 1, 1) := by decide +kernel
theorem dX0_isRing_30 : decode prog_2_method_4_code 30 = .ok (.istore_n 3, 1) := by decide +kernel
theorem dX0_isRing_31 : decode prog_2_method_4_code 31 = .ok (.iload_n 3, 1) := by decide +kernel
theorem dX0_isRing_32 : decode prog_2_method_4_code 32 = .ok (.iconst 1, 1) := by decide +kernel
theorem dX0_isRing_33 : decode prog_2_method_4_code 33 = .ok (.iadd, 1) := by decide +kernel
theorem dX0_isRing_34 : decode prog_2_method_4_code 34 = .ok (.iload_n 2, 1) := by decide +kernel
theorem dX0_isRing_35 : decode prog_2_method_4_code 35 = .ok (.if_icmp .ge 79, 3) := by decide +kernel
theorem dX0_isRing_38 : decode prog_2_method_4_code 38 = .ok (.iload_n 3, 1) := by decide +kernel
theorem dX0_isRing_39 : decode prog_2_method_4_code 39 = .ok (.iconst 1, 1) := by decide +kernel
theorem dX0_isRing_40 : decode prog_2_method_4_code 40 = .ok (.iadd, 1) := by decide +kernel
theorem dX0_isRing_41 : decode prog_2_method_4_code 41 = .ok (.istore 4, 2) := by decide +kernel
theorem dX0_isRing_43 : decode prog_2_method_4_code 43 = .ok (.iload 4, 2) := by decide +kernel
theorem dX0_isRing_45 : decode prog_2_method_4_code 45 = .ok (.iconst 1, 1) := by decide +kernel
theorem dX0_isRing_46 : decode prog_2_method_4_code 46 = .ok (.iadd, 1) := by decide +kernel
theorem dX0_isRing_47 : decode prog_2_method_4_code 47 = .ok (.iload_n 2, 1) := by decide +kernel
theorem dX0_isRing_48 : decode prog_2_method_4_code 48 = .ok (.if_icmp .ge 60, 3) := by decide +kernel
theorem dX0_isRing_51 : decode prog_2_method_4_code 51 = .ok (.iload 4, 2) := by decide +kernel
theorem dX0_isRing_53 : decode prog_2_method_4_code 53 = .ok (.iload_n 3, 1) := by decide +kernel
theorem dX0_isRing_54 : decode prog_2_method_4_code 54 = .ok (.iconst 1, 1) := by decide +kernel
theorem dX0_isRing_55 : decode prog_2_method_4_code 55 = .ok (.iadd, 1) := by decide +kernel
theorem dX0_isRing_56 : decode prog_2_method_4_code 56 = .ok (.if_icmp .eq 16, 3) := by decide +kernel
theorem dX0_isRing_59 : decode prog_2_method_4_code 59 = .ok (.iload_n 3, 1) := by decide +kernel
theorem dX0_isRing_60 : decode prog_2_method_4_code 60 = .ok (.iload_n 1, 1) := by decide +kernel
theorem dX0_isRing_61 : decode prog_2_method_4_code 61 = .ok (.if_icmp .ne 15, 3) := by decide +kernel
theorem dX0_isRing_64 : decode prog_2_method_4_code 64 = .ok (.iload 4, 2) := by decide +kernel
theorem dX0_isRing_66 : decode prog_2_method_4_code 66 = .ok (.iconst 2, 1) := by decide +kernel
theorem dX0_isRing_67 : decode prog_2_method_4_code 67 = .ok (.iadd, 1) := by decide +kernel
theorem dX0_isRing_68 : decode prog_2_method_4_code 68 = .ok (.iload_n 2, 1) := by decide +kernel
theorem dX0_isRing_69 : decode prog_2_method_4_code 69 = .ok (.if_icmp .ne 7, 3) := by decide +kernel
theorem dX0_isRing_72 : decode prog_2_method_4_code 72 = .ok (.iconst 1, 1) := by decide +kernel
theorem dX0_isRing_73 : decode prog_2_method_4_code 73 = .ok (.goto 4, 3) := by decide +kernel
theorem dX0_isRing_76 : decode prog_2_method_4_code 76 = .ok (.iconst 0, 1) := by decide +kernel
theorem dX0_isRing_77 : decode prog_2_method_4_code 77 = .ok (.istore 5, 2) := by decide +kernel
theorem dX0_isRing_79 : decode prog_2_method_4_code 79 = .ok (.aload_n 0, 1) := by decide +kernel
theorem dX0_isRing_80 : decode prog_2_method_4_code 80 = .ok (.iload_n 3, 1) := by decide +kernel
theorem dX0_isRing_81 : decode prog_2_method_4_code 81 = .ok (.aload_n 0, 1) := by decide +kernel
theorem dX0_isRing_82 : decode prog_2_method_4_code 82 = .ok (.iload 4, 2) := by decide +kernel
theorem dX0_isRing_84 : decode prog_2_method_4_code 84 = .ok (.invokestatic 56, 3) := by decide +kernel
theorem dX0_isRing_87 : decode prog_2_method_4_code 87 = .ok (.iload 5, 2) := by decide +kernel
theorem dX0_isRing_89 : decode prog_2_method_4_code 89 = .ok (.ifCond .eq 7, 3) := by decide +kernel
theorem dX0_isRing_92 : decode prog_2_method_4_code 92 = .ok (.iconst 1, 1) := by decide +kernel
theorem dX0_isRing_93 : decode prog_2_method_4_code 93 = .ok (.goto 4, 3) := by decide +kernel
theorem dX0_isRing_96 : decode prog_2_method_4_code 96 = .ok (.iconst 0, 1) := by decide +kernel
theorem dX0_isRing_97 : decode prog_2_method_4_code 97 = .ok (.if_icmp .le 5, 3) := by decide +kernel
theorem dX0_isRing_100 : decode prog_2_method_4_code 100 = .ok (.iconst 0, 1) := by decide +kernel
theorem dX0_isRing_101 : decode prog_2_method_4_code 101 = .ok (.ireturn, 1) := by decide +kernel
theorem dX0_isRing_102 : decode prog_2_method_4_code 102 = .ok (.iinc 4 1, 3) := by decide +kernel
theorem dX0_isRing_105 : decode prog_2_method_4_code 105 = .ok (.goto (-62), 3) := by decide +kernel
theorem dX0_isRing_108 : decode prog_2_method_4_code 108 = .ok (.iinc 3 1, 3) := by decide +kernel
theorem dX0_isRing_111 : decode prog_2_method_4_code 111 = .ok (.goto (-80), 3) := by decide +kernel
theorem dX0_isRing_114 : decode prog_2_method_4_code 114 = .ok (.iconst 1, 1) := by decide +kernel
theorem dX0_isRing_115 : decode prog_2_method_4_code 115 = .ok (.ireturn, 1) := by decide +kernel
theorem dX0_doHolesFit_0 : decode prog_2_method_5_code 0 = .ok (.iconst 1, 1) := by decide +kernel
theorem dX0_doHolesFit_1 : decode prog_2_method_5_code 1 = .ok (.istore_n 2, 1) := by decide +kernel
theorem dX0_doHolesFit_2 : decode prog_2_method_5_code 2 = .ok (.iload_n 2, 1) := by decide +kernel
theorem dX0_doHolesFit_3 : decode prog_2_method_5_code 3 = .ok (.aload_n 1, 1) := by decide +kernel
theorem dX0_doHolesFit_4 : decode prog_2_method_5_code 4 = .ok (.getfield 32, 3) := by decide +kernel
theorem dX0_doHolesFit_7 : decode prog_2_method_5_code 7 = .ok (.if_icmp .ge 93, 3) := by decide +kernel
theorem dX0_doHolesFit_10 : decode prog_2_method_5_code 10 = .ok (.iconst 0, 1) := by decide +kernel
theorem dX0_doHolesFit_11 : decode prog_2_method_5_code 11 = .ok (.istore_n 3, 1) := by decide +kernel
theorem dX0_doHolesFit_12 : decode prog_2_method_5_code 12 = .ok (.iload_n 3, 1) := by decide +kernel
theorem dX0_doHolesFit_13 : decode prog_2_method_5_code 13 = .ok (.aload_n 1, 1) := by decide +kernel
theorem dX0_doHolesFit_14 : decode prog_2_method_5_code 14 = .ok (.getfield 32, 3) := by decide +kernel
theorem dX0_doHolesFit_17 : decode prog_2_method_5_code 17 = .ok (.if_icmp .ge 77, 3) := by decide +kernel
theorem dX0_doHolesFit_20 : decode prog_2_method_5_code 20 = .ok (.iload_n 3, 1) := by decide +kernel
theorem dX0_doHolesFit_21 : decode prog_2_method_5_code 21 = .ok (.ifCond .ne 8, 3) := by decide +kernel
theorem dX0_doHolesFit_24 : decode prog_2_method_5_code 24 = .ok (.bipush 6, 2) := by decide +kernel
theorem dX0_doHolesFit_26 : decode prog_2_method_5_code 26 = .ok (.goto 4, 3) := by decide +kernel
theorem dX0_doHolesFit_29 : decode prog_2_method_5_code 29 = .ok (.iconst 5, 1) := by decide +kernel
theorem dX0_doHolesFit_30 : decode prog_2_method_5_code 30 = .ok (.istore 4, 2) := by decide +kernel
theorem dX0_doHolesFit_32 : decode prog_2_method_5_code 32 = .ok (.iload_n 3, 1) := by decide +kernel
theorem dX0_doHolesFit_33 : decode prog_2_method_5_code 33 = .ok (.iload_n 2, 1) := by decide +kernel
theorem dX0_doHolesFit_34 : decode prog_2_method_5_code 34 = .ok (.if_icmp .ne 6, 3) := by decide +kernel
theorem dX0_doHolesFit_37 : decode prog_2_method_5_code 37 = .ok (.goto 51, 3) := by decide +kernel
theorem dX0_doHolesFit_40 : decode prog_2_method_5_code 40 = .ok (.aload_n 0, 1) := by decide +kernel
theorem dX0_doHolesFit_41 : decode prog_2_method_5_code 41 = .ok (.getfield 9, 3) := by decide +kernel
theorem dX0_doHolesFit_44 : decode prog_2_method_5_code 44 = .ok (.aload_n 1, 1) := by decide +kernel
theorem dX0_doHolesFit_45 : decode prog_2_method_5_code 45 = .ok (.aload_n 1, 1) := by decide +kernel
theorem dX0_doHolesFit_46 : decode prog_2_method_5_code 46 = .ok (.iload_n 3, 1) := by decide +kernel
theorem dX0_doHolesFit_47 : decode prog_2_method_5_code 47 = .ok (.invokevirtual 35, 3) := by decide +kernel
theorem dX0_doHolesFit_50 : decode prog_2_method_5_code 50 = .ok (.aload_n 1, 1) := by decide +kernel
theorem dX0_doHolesFit_51 : decode prog_2_method_5_code 51 = .ok (.getfield 39, 3) := by decide +kernel
theorem dX0_doHolesFit_54 : decode prog_2_method_5_code 54 = .ok (.iload_n 3, 1) := by decide +kernel
theorem dX0_doHolesFit_55 : decode prog_2_method_5_code 55 = .ok (.iaload, 1) := by decide +kernel
theorem dX0_doHolesFit_56 : decode prog_2_method_5_code 56 = .ok (.invokevirtual 64, 3) := by decide +kernel
theorem dX0_doHolesFit_59 : decode prog_2_method_5_code 59 = .ok (.aload_n 0, 1) := by decide +kernel
theorem dX0_doHolesFit_60 : decode prog_2_method_5_code 60 = .ok (.getfield 9, 3) := by decide +kernel
theorem dX0_doHolesFit_63 : decode prog_2_method_5_code 63 = .ok (.aload_n 1, 1) := by decide +kernel
theorem dX0_doHolesFit_64 : decode prog_2_method_5_code 64 = .ok (.aload_n 1, 1) := by decide +kernel
theorem dX0_doHolesFit_65 : decode prog_2_method_5_code 65 = .ok (.iload_n 2, 1) := by decide +kernel
theorem dX0_doHolesFit_66 : decode prog_2_method_5_code 66 = .ok (.invokevirtual 35, 3) := by decide +kernel
theorem dX0_doHolesFit_69 : decode prog_2_method_5_code 69 = .ok (.aload_n 1, 1) := by decide +kernel
theorem dX0_doHolesFit_70 : decode prog_2_method_5_code 70 = .ok (.getfield 39, 3) := by decide +kernel
theorem dX0_doHolesFit_73 : decode prog_2_method_5_code 73 = .ok (.iload_n 2, 1) := by decide +kernel
theorem dX0_doHolesFit_74 : decode prog_2_method_5_code 74 = .ok (.iaload, 1) := by decide +kernel
theorem dX0_doHolesFit_75 : decode prog_2_method_5_code 75 = .ok (.iload 4, 2) := by decide +kernel
theorem dX0_doHolesFit_77 : decode prog_2_method_5_code 77 = .ok (.invokevirtual 68, 3) := by decide +kernel
theorem dX0_doHolesFit_80 : decode prog_2_method_5_code 80 = .ok (.iload 4, 2) := by decide +kernel
theorem dX0_doHolesFit_82 : decode prog_2_method_5_code 82 = .ok (.iand, 1) := by decide +kernel
theorem dX0_doHolesFit_83 : decode prog_2_method_5_code 83 = .ok (.ifCond .eq 5, 3) := by decide +kernel
theorem dX0_doHolesFit_86 : decode prog_2_method_5_code 86 = .ok (.iconst 0, 1) := by decide +kernel
theorem dX0_doHolesFit_87 : decode prog_2_method_5_code 87 = .ok (.ireturn, 1) := by decide +kernel
theorem dX0_doHolesFit_88 : decode prog_2_method_5_code 88 = .ok (.iinc 3 1, 3) := by decide +kernel
theorem dX0_doHolesFit_91 : decode prog_2_method_5_code 91 = .ok (.goto (-79), 3) := by decide +kernel
theorem dX0_doHolesFit_94 : decode prog_2_method_5_code 94 = .ok (.iinc 2 1, 3) := by decide +kernel
theorem dX0_doHolesFit_97 : decode prog_2_method_5_code 97 = .ok (.goto (-95), 3) := by decide +kernel
theorem dX0_doHolesFit_100 : decode prog_2_method_5_code 100 = .ok (.iconst 1, 1) := by decide +kernel
theorem dX0_doHolesFit_101 : decode prog_2_method_5_code 101 = .ok (.ireturn, 1) := by decide +kernel
theorem dX0_isOnePiece_0 : decode prog_2_method_6_code 0 = .ok (.iconst 0, 1) := by decide +kernel
theorem dX0_isOnePiece_1 : decode prog_2_method_6_code 1 = .ok (.istore_n 2, 1) := by decide +kernel
theorem dX0_isOnePiece_2 : decode prog_2_method_6_code 2 = .ok (.iload_n 2, 1) := by decide +kernel
theorem dX0_isOnePiece_3 : decode prog_2_method_6_code 3 = .ok (.bipush 8, 2) := by decide +kernel
theorem dX0_isOnePiece_5 : decode prog_2_method_6_code 5 = .ok (.if_icmp .ge 16, 3) := by decide +kernel
theorem dX0_isOnePiece_8 : decode prog_2_method_6_code 8 = .ok (.aload_n 0, 1) := by decide +kernel
theorem dX0_isOnePiece_9 : decode prog_2_method_6_code 9 = .ok (.getfield 15, 3) := by decide +kernel
theorem dX0_isOnePiece_12 : decode prog_2_method_6_code 12 = .ok (.iload_n 2, 1) := by decide +kernel
theorem dX0_isOnePiece_13 : decode prog_2_method_6_code 13 = .ok (.iload_n 2, 1) := by decide +kernel
theorem dX0_isOnePiece_14 : decode prog_2_method_6_code 14 = .ok (.iastore, 1) := by decide +kernel
theorem dX0_isOnePiece_15 : decode prog_2_method_6_code 15 = .ok (.iinc 2 1, 3) := by decide +kernel
theorem dX0_isOnePiece_18 : decode prog_2_method_6_code 18 = .ok (.goto (-16), 3) := by decide +kernel
theorem dX0_isOnePiece_21 : decode prog_2_method_6_code 21 = .ok (.iconst 0, 1) := by decide +kernel
theorem dX0_isOnePiece_22 : decode prog_2_method_6_code 22 = .ok (.istore_n 2, 1) := by decide +kernel
theorem dX0_isOnePiece_23 : decode prog_2_method_6_code 23 = .ok (.iload_n 2, 1) := by decide +kernel
theorem dX0_isOnePiece_24 : decode prog_2_method_6_code 24 = .ok (.aload_n 1, 1) := by decide +kernel
theorem dX0_isOnePiece_25 : decode prog_2_method_6_code 25 = .ok (.getfield 25, 3) := by decide +kernel
theorem dX0_isOnePiece_28 : decode prog_2_method_6_code 28 = .ok (.if_icmp .ge 28, 3) := by decide +kernel
theorem dX0_isOnePiece_31 : decode prog_2_method_6_code 31 = .ok (.aload_n 1, 1) := by decide +kernel
theorem dX0_isOnePiece_32 : decode prog_2_method_6_code 32 = .ok (.iload_n 2, 1) := by decide +kernel
theorem dX0_isOnePiece_33 : decode prog_2_method_6_code 33 = .ok (.invokestatic 72, 3) := by decide +kernel
theorem dX0_isOnePiece_36 : decode prog_2_method_6_code 36 = .ok (.ifCond .ne 14, 3) := by decide +kernel
theorem dX0_isOnePiece_39 : decode prog_2_method_6_code 39 = .ok (.aload_n 0, 1) := by decide +kernel
theorem dX0_isOnePiece_40 : decode prog_2_method_6_code 40 = .ok (.aload_n 1, 1) := by decide +kernel
theorem dX0_isOnePiece_41 : decode prog_2_method_6_code 41 = .ok (.iload_n 2, 1) := by decide +kernel
theorem dX0_isOnePiece_42 : decode prog_2_method_6_code 42 = .ok (.invokevirtual 76, 3) := by decide +kernel
theorem dX0_isOnePiece_45 : decode prog_2_method_6_code 45 = .ok (.ifCond .eq 5, 3) := by decide +kernel
theorem dX0_isOnePiece_48 : decode prog_2_method_6_code 48 = .ok (.iconst 0, 1) := by decide +kernel
theorem dX0_isOnePiece_49 : decode prog_2_method_6_code 49 = .ok (.ireturn, 1) := by decide +kernel
theorem dX0_isOnePiece_50 : decode prog_2_method_6_code 50 = .ok (.iinc 2 1, 3) := by decide +kernel
theorem dX0_isOnePiece_53 : decode prog_2_method_6_code 53 = .ok (.goto (-30), 3) := by decide +kernel
theorem dX0_isOnePiece_56 : decode prog_2_method_6_code 56 = .ok (.iconst 1, 1) := by decide +kernel
theorem dX0_isOnePiece_57 : decode prog_2_method_6_code 57 = .ok (.ireturn, 1) := by decide +kernel
theorem dX0_isSeenBefore_0 : decode prog_2_method_7_code 0 = .ok (.iconst 0, 1) := by decide +kernel
theorem dX0_isSeenBefore_1 : decode prog_2_method_7_code 1 = .ok (.istore_n 2, 1) := by decide +kernel
theorem dX0_isSeenBefore_2 : decode prog_2_method_7_code 2 = .ok (.iload_n 2, 1) := by decide +kernel
theorem dX0_isSeenBefore_3 : decode prog_2_method_7_code 3 = .ok (.iload_n 1, 1) := by decide +kernel
theorem dX0_isSeenBefore_4 : decode prog_2_method_7_code 4 = .ok (.if_icmp .ge 20, 3) := by decide +kernel
theorem dX0_isSeenBefore_7 : decode prog_2_method_7_code 7 = .ok (.aload_n 0, 1) := by decide +kernel
theorem dX0_isSeenBefore_8 : decode prog_2_method_7_code 8 = .ok (.iload_n 1, 1) := by decide +kernel
theorem dX0_isSeenBefore_9 : decode prog_2_method_7_code 9 = .ok (.iload_n 2, 1) := by decide +kernel
theorem dX0_isSeenBefore_10 : decode prog_2_method_7_code 10 = .ok (.invokevirtual 52, 3) := by decide +kernel
theorem dX0_isSeenBefore_13 : decode prog_2_method_7_code 13 = .ok (.ifCond .eq 5, 3) := by decide +kernel
theorem dX0_isSeenBefore_16 : decode prog_2_method_7_code 16 = .ok (.iconst 1, 1) := by decide +kernel
theorem dX0_isSeenBefore_17 : decode prog_2_method_7_code 17 = .ok (.ireturn, 1) := by decide +kernel
theorem dX0_isSeenBefore_18 : decode prog_2_method_7_code 18 = .ok (.iinc 2 1, 3) := by decide +kernel
theorem dX0_isSeenBefore_21 : decode prog_2_method_7_code 21 = .ok (.goto (-19), 3) := by decide +kernel
theorem dX0_isSeenBefore_24 : decode prog_2_method_7_code 24 = .ok (.iconst 0, 1) := by decide +kernel
theorem dX0_isSeenBefore_25 : decode prog_2_method_7_code 25 = .ok (.ireturn, 1) := by decide +kernel
theorem dX0_closesCircle_0 : decode prog_2_method_8_code 0 = .ok (.iconst (-1), 1) := by decide +kernel
theorem dX0_closesCircle_1 : decode prog_2_method_8_code 1 = .ok (.istore_n 3, 1) := by decide +kernel
theorem dX0_closesCircle_2 : decode prog_2_method_8_code 2 = .ok (.iconst 0, 1) := by decide +kernel
theorem dX0_closesCircle_3 : decode prog_2_method_8_code 3 = .ok (.istore 4, 2) := by decide +kernel
theorem dX0_closesCircle_5 : decode prog_2_method_8_code 5 = .ok (.iload 4, 2) := by decide +kernel
theorem dX0_closesCircle_7 : decode prog_2_method_8_code 7 = .ok (.aload_n 1, 1) := by decide +kernel
theorem dX0_closesCircle_8 : decode prog_2_method_8_code 8 = .ok (.getfield 32, 3) := by decide +kernel
theorem dX0_closesCircle_11 : decode prog_2_method_8_code 11 = .ok (.if_icmp .ge 73, 3) := by decide +kernel
theorem dX0_closesCircle_14 : decode prog_2_method_8_code 14 = .ok (.aload_n 1, 1) := by decide +kernel
theorem dX0_closesCircle_15 : decode prog_2_method_8_code 15 = .ok (.iload 4, 2) := by decide +kernel
theorem dX0_closesCircle_17 : decode prog_2_method_8_code 17 = .ok (.aload_n 1, 1) := by decide +kernel
theorem dX0_closesCircle_18 : decode prog_2_method_8_code 18 = .ok (.getfield 79, 3) := by decide +kernel
theorem dX0_closesCircle_21 : decode prog_2_method_8_code 21 = .ok (.iload_n 2, 1) := by decide +kernel
theorem dX0_closesCircle_22 : decode prog_2_method_8_code 22 = .ok (.iaload, 1) := by decide +kernel
theorem dX0_closesCircle_23 : decode prog_2_method_8_code 23 = .ok (.aload_n 1, 1) := by decide +kernel
theorem dX0_closesCircle_24 : decode prog_2_method_8_code 24 = .ok (.getfield 82, 3) := by decide +kernel
theorem dX0_closesCircle_27 : decode prog_2_method_8_code 27 = .ok (.iload_n 2, 1) := by decide +kernel
theorem dX0_closesCircle_28 : decode prog_2_method_8_code 28 = .ok (.iaload, 1) := by decide +kernel
theorem dX0_closesCircle_29 : decode prog_2_method_8_code 29 = .ok (.invokestatic 85, 3) := by decide +kernel
theorem dX0_closesCircle_32 : decode prog_2_method_8_code 32 = .ok (.ifCond .ne 6, 3) := by decide +kernel
theorem dX0_closesCircle_35 : decode prog_2_method_8_code 35 = .ok (.goto 43, 3) := by decide +kernel
theorem dX0_closesCircle_38 : decode prog_2_method_8_code 38 = .ok (.iload_n 3, 1) := by decide +kernel
theorem dX0_closesCircle_39 : decode prog_2_method_8_code 39 = .ok (.ifCond .ge 14, 3) := by decide +kernel
theorem dX0_closesCircle_42 : decode prog_2_method_8_code 42 = .ok (.aload_n 0, 1) := by decide +kernel
theorem dX0_closesCircle_43 : decode prog_2_method_8_code 43 = .ok (.getfield 15, 3) := by decide +kernel
theorem dX0_closesCircle_46 : decode prog_2_method_8_code 46 = .ok (.iload 4, 2) := by decide +kernel
theorem dX0_closesCircle_48 : decode prog_2_method_8_code 48 = .ok (.iaload, 1) := by decide +kernel
theorem dX0_closesCircle_49 : decode prog_2_method_8_code 49 = .ok (.istore_n 3, 1) := by decide +kernel
theorem dX0_closesCircle_50 : decode prog_2_method_8_code 50 = .ok (.goto 28, 3) := by decide +kernel
theorem dX0_closesCircle_53 : decode prog_2_method_8_code 53 = .ok (.aload_n 0, 1) := by decide +kernel
theorem dX0_closesCircle_54 : decode prog_2_method_8_code 54 = .ok (.getfield 15, 3) := by decide +kernel
theorem dX0_closesCircle_57 : decode prog_2_method_8_code 57 = .ok (.iload 4, 2) := by decide +kernel
theorem dX0_closesCircle_59 : decode prog_2_method_8_code 59 = .ok (.iaload, 1) := by decide +kernel
theorem dX0_closesCircle_60 : decode prog_2_method_8_code 60 = .ok (.iload_n 3, 1) := by decide +kernel
theorem dX0_closesCircle_61 : decode prog_2_method_8_code 61 = .ok (.if_icmp .ne 5, 3) := by decide +kernel
theorem dX0_closesCircle_64 : decode prog_2_method_8_code 64 = .ok (.iconst 1, 1) := by decide +kernel
theorem dX0_closesCircle_65 : decode prog_2_method_8_code 65 = .ok (.ireturn, 1) := by decide +kernel
theorem dX0_closesCircle_66 : decode prog_2_method_8_code 66 = .ok (.aload_n 0, 1) := by decide +kernel
theorem dX0_closesCircle_67 : decode prog_2_method_8_code 67 = .ok (.aload_n 0, 1) := by decide +kernel
theorem dX0_closesCircle_68 : decode prog_2_method_8_code 68 = .ok (.getfield 15, 3) := by decide +kernel
theorem dX0_closesCircle_71 : decode prog_2_method_8_code 71 = .ok (.iload 4, 2) := by decide +kernel
theorem dX0_closesCircle_73 : decode prog_2_method_8_code 73 = .ok (.iaload, 1) := by decide +kernel
theorem dX0_closesCircle_74 : decode prog_2_method_8_code 74 = .ok (.iload_n 3, 1) := by decide +kernel
theorem dX0_closesCircle_75 : decode prog_2_method_8_code 75 = .ok (.invokevirtual 89, 3) := by decide +kernel
theorem dX0_closesCircle_78 : decode prog_2_method_8_code 78 = .ok (.iinc 4 1, 3) := by decide +kernel
theorem dX0_closesCircle_81 : decode prog_2_method_8_code 81 = .ok (.goto (-76), 3) := by decide +kernel
theorem dX0_closesCircle_84 : decode prog_2_method_8_code 84 = .ok (.iconst 0, 1) := by decide +kernel
theorem dX0_closesCircle_85 : decode prog_2_method_8_code 85 = .ok (.ireturn, 1) := by decide +kernel
theorem dX0_isOnRing_0 : decode prog_2_method_9_code 0 = .ok (.aload_n 0, 1) := by decide +kernel
theorem dX0_isOnRing_1 : decode prog_2_method_9_code 1 = .ok (.iload_n 1, 1) := by decide +kernel
theorem dX0_isOnRing_2 : decode prog_2_method_9_code 2 = .ok (.invokevirtual 35, 3) := by decide +kernel
theorem dX0_isOnRing_5 : decode prog_2_method_9_code 5 = .ok (.istore 4, 2) := by decide +kernel
theorem dX0_isOnRing_7 : decode prog_2_method_9_code 7 = .ok (.iload 4, 2) := by decide +kernel
theorem dX0_isOnRing_9 : decode prog_2_method_9_code 9 = .ok (.iconst 1, 1) := by decide +kernel
theorem dX0_isOnRing_10 : decode prog_2_method_9_code 10 = .ok (.iadd, 1) := by decide +kernel
theorem dX0_isOnRing_11 : decode prog_2_method_9_code 11 = .ok (.aload_n 0, 1) := by decide +kernel
theorem dX0_isOnRing_12 : decode prog_2_method_9_code 12 = .ok (.getfield 39, 3) := by decide +kernel
theorem dX0_isOnRing_15 : decode prog_2_method_9_code 15 = .ok (.iload_n 1, 1) := by decide +kernel
theorem dX0_isOnRing_16 : decode prog_2_method_9_code 16 = .ok (.iaload, 1) := by decide +kernel
theorem dX0_isOnRing_17 : decode prog_2_method_9_code 17 = .ok (.if_icmp .ge 22, 3) := by decide +kernel
theorem dX0_isOnRing_20 : decode prog_2_method_9_code 20 = .ok (.aload_n 0, 1) := by decide +kernel
theorem dX0_isOnRing_21 : decode prog_2_method_9_code 21 = .ok (.iload 4, 2) := by decide +kernel
theorem dX0_isOnRing_23 : decode prog_2_method_9_code 23 = .ok (.iload_n 2, 1) := by decide +kernel
theorem dX0_isOnRing_24 : decode prog_2_method_9_code 24 = .ok (.iload_n 3, 1) := by decide +kernel
theorem dX0_isOnRing_25 : decode prog_2_method_9_code 25 = .ok (.invokestatic 93, 3) := by decide +kernel
theorem dX0_isOnRing_28 : decode prog_2_method_9_code 28 = .ok (.ifCond .eq 5, 3) := by decide +kernel
theorem dX0_isOnRing_31 : decode prog_2_method_9_code 31 = .ok (.iconst 1, 1) := by decide +kernel
theorem dX0_isOnRing_32 : decode prog_2_method_9_code 32 = .ok (.ireturn, 1) := by decide +kernel
theorem dX0_isOnRing_33 : decode prog_2_method_9_code 33 = .ok (.iinc 4 1, 3) := by decide +kernel
theorem dX0_isOnRing_36 : decode prog_2_method_9_code 36 = .ok (.goto (-29), 3) := by decide +kernel
theorem dX0_isOnRing_39 : decode prog_2_method_9_code 39 = .ok (.iconst 0, 1) := by decide +kernel
theorem dX0_isOnRing_40 : decode prog_2_method_9_code 40 = .ok (.ireturn, 1) := by decide +kernel
theorem dX0_joinGroups_0 : decode prog_2_method_10_code 0 = .ok (.iconst 0, 1) := by decide +kernel
theorem dX0_joinGroups_1 : decode prog_2_method_10_code 1 = .ok (.istore_n 3, 1) := by decide +kernel
theorem dX0_joinGroups_2 : decode prog_2_method_10_code 2 = .ok (.iload_n 3, 1) := by decide +kernel
theorem dX0_joinGroups_3 : decode prog_2_method_10_code 3 = .ok (.bipush 8, 2) := by decide +kernel
theorem dX0_joinGroups_5 : decode prog_2_method_10_code 5 = .ok (.if_icmp .ge 26, 3) := by decide +kernel
theorem dX0_joinGroups_8 : decode prog_2_method_10_code 8 = .ok (.aload_n 0, 1) := by decide +kernel
theorem dX0_joinGroups_9 : decode prog_2_method_10_code 9 = .ok (.getfield 15, 3) := by decide +kernel
theorem dX0_joinGroups_12 : decode prog_2_method_10_code 12 = .ok (.iload_n 3, 1) := by decide +kernel
theorem dX0_joinGroups_13 : decode prog_2_method_10_code 13 = .ok (.iaload, 1) := by decide +kernel
theorem dX0_joinGroups_14 : decode prog_2_method_10_code 14 = .ok (.iload_n 1, 1) := by decide +kernel
theorem dX0_joinGroups_15 : decode prog_2_method_10_code 15 = .ok (.if_icmp .ne 10, 3) := by decide +kernel
theorem dX0_joinGroups_18 : decode prog_2_method_10_code 18 = .ok (.aload_n 0, 1) := by decide +kernel
theorem dX0_joinGroups_19 : decode prog_2_method_10_code 19 = .ok (.getfield 15, 3) := by decide +kernel
theorem dX0_joinGroups_22 : decode prog_2_method_10_code 22 = .ok (.iload_n 3, 1) := by decide +kernel
theorem dX0_joinGroups_23 : decode prog_2_method_10_code 23 = .ok (.iload_n 2, 1) := by decide +kernel
theorem dX0_joinGroups_24 : decode prog_2_method_10_code 24 = .ok (.iastore, 1) := by decide +kernel
theorem dX0_joinGroups_25 : decode prog_2_method_10_code 25 = .ok (.iinc 3 1, 3) := by decide +kernel
theorem dX0_joinGroups_28 : decode prog_2_method_10_code 28 = .ok (.goto (-26), 3) := by decide +kernel
theorem dX0_joinGroups_31 : decode prog_2_method_10_code 31 = .ok (.return_, 1) := by decide +kernel
theorem dX1_init_0 : decode prog_3_method_1_code 0 = .ok (.aload_n 0, 1) := by decide +kernel
theorem dX1_init_1 : decode prog_3_method_1_code 1 = .ok (.invokespecial 3, 3) := by decide +kernel
theorem dX1_init_4 : decode prog_3_method_1_code 4 = .ok (.aload_n 0, 1) := by decide +kernel
theorem dX1_init_5 : decode prog_3_method_1_code 5 = .ok (.new 9, 3) := by decide +kernel
theorem dX1_init_8 : decode prog_3_method_1_code 8 = .ok (.dup, 1) := by decide +kernel
theorem dX1_init_9 : decode prog_3_method_1_code 9 = .ok (.invokespecial 11, 3) := by decide +kernel
theorem dX1_init_12 : decode prog_3_method_1_code 12 = .ok (.putfield 12, 3) := by decide +kernel
theorem dX1_init_15 : decode prog_3_method_1_code 15 = .ok (.aload_n 0, 1) := by decide +kernel
theorem dX1_init_16 : decode prog_3_method_1_code 16 = .ok (.bipush 80, 2) := by decide +kernel
theorem dX1_init_18 : decode prog_3_method_1_code 18 = .ok (.newarray .long, 2) := by decide +kernel
theorem dX1_init_20 : decode prog_3_method_1_code 20 = .ok (.putfield 18, 3) := by decide +kernel
theorem dX1_init_23 : decode prog_3_method_1_code 23 = .ok (.aload_n 0, 1) := by decide +kernel
theorem dX1_init_24 : decode prog_3_method_1_code 24 = .ok (.bipush 80, 2) := by decide +kernel
theorem dX1_init_26 : decode prog_3_method_1_code 26 = .ok (.newarray .long, 2) := by decide +kernel
theorem dX1_init_28 : decode prog_3_method_1_code 28 = .ok (.putfield 22, 3) := by decide +kernel
theorem dX1_init_31 : decode prog_3_method_1_code 31 = .ok (.aload_n 0, 1) := by decide +kernel
theorem dX1_init_32 : decode prog_3_method_1_code 32 = .ok (.bipush 80, 2) := by decide +kernel
theorem dX1_init_34 : decode prog_3_method_1_code 34 = .ok (.newarray .int, 2) := by decide +kernel
theorem dX1_init_36 : decode prog_3_method_1_code 36 = .ok (.putfield 25, 3) := by decide +kernel
theorem dX1_init_39 : decode prog_3_method_1_code 39 = .ok (.return_, 1) := by decide +kernel
theorem dX1_aim_0 : decode prog_3_method_2_code 0 = .ok (.aload_n 0, 1) := by decide +kernel
theorem dX1_aim_1 : decode prog_3_method_2_code 1 = .ok (.aload_n 1, 1) := by decide +kernel
theorem dX1_aim_2 : decode prog_3_method_2_code 2 = .ok (.putfield 12, 3) := by decide +kernel
theorem dX1_aim_5 : decode prog_3_method_2_code 5 = .ok (.aload_n 0, 1) := by decide +kernel
theorem dX1_aim_6 : decode prog_3_method_2_code 6 = .ok (.iload_n 2, 1) := by decide +kernel
theorem dX1_aim_7 : decode prog_3_method_2_code 7 = .ok (.ifCond .lt 11, 3) := by decide +kernel
theorem dX1_aim_10 : decode prog_3_method_2_code 10 = .ok (.iload_n 2, 1) := by decide +kernel
theorem dX1_aim_11 : decode prog_3_method_2_code 11 = .ok (.aload_n 1, 1) := by decide +kernel
theorem dX1_aim_12 : decode prog_3_method_2_code 12 = .ok (.getfield 29, 3) := by decide +kernel
theorem dX1_aim_15 : decode prog_3_method_2_code 15 = .ok (.if_icmp .lt 7, 3) := by decide +kernel
theorem dX1_aim_18 : decode prog_3_method_2_code 18 = .ok (.iconst 0, 1) := by decide +kernel
theorem dX1_aim_19 : decode prog_3_method_2_code 19 = .ok (.goto 4, 3) := by decide +kernel
theorem dX1_aim_22 : decode prog_3_method_2_code 22 = .ok (.iload_n 2, 1) := by decide +kernel
theorem dX1_aim_23 : decode prog_3_method_2_code 23 = .ok (.putfield 33, 3) := by decide +kernel
theorem dX1_aim_26 : decode prog_3_method_2_code 26 = .ok (.aload_n 0, 1) := by decide +kernel
theorem dX1_aim_27 : decode prog_3_method_2_code 27 = .ok (.iload_n 3, 1) := by decide +kernel
theorem dX1_aim_28 : decode prog_3_method_2_code 28 = .ok (.aload_n 1, 1) := by decide +kernel
theorem dX1_aim_29 : decode prog_3_method_2_code 29 = .ok (.getfield 29, 3) := by decide +kernel
theorem dX1_aim_32 : decode prog_3_method_2_code 32 = .ok (.invokestatic 36, 3) := by decide +kernel
theorem dX1_aim_35 : decode prog_3_method_2_code 35 = .ok (.putfield 42, 3) := by decide +kernel
theorem dX1_aim_38 : decode prog_3_method_2_code 38 = .ok (.aload_n 0, 1) := by decide +kernel
theorem dX1_aim_39 : decode prog_3_method_2_code 39 = .ok (.aload_n 1, 1) := by decide +kernel
theorem dX1_aim_40 : decode prog_3_method_2_code 40 = .ok (.getfield 45, 3) := by decide +kernel
theorem dX1_aim_43 : decode prog_3_method_2_code 43 = .ok (.aload_n 0, 1) := by decide +kernel
theorem dX1_aim_44 : decode prog_3_method_2_code 44 = .ok (.getfield 33, 3) := by decide +kernel
theorem dX1_aim_47 : decode prog_3_method_2_code 47 = .ok (.iaload, 1) := by decide +kernel
theorem dX1_aim_48 : decode prog_3_method_2_code 48 = .ok (.putfield 48, 3) := by decide +kernel
theorem dX1_aim_51 : decode prog_3_method_2_code 51 = .ok (.aload_n 0, 1) := by decide +kernel
theorem dX1_aim_52 : decode prog_3_method_2_code 52 = .ok (.aload_n 0, 1) := by decide +kernel
theorem dX1_aim_53 : decode prog_3_method_2_code 53 = .ok (.getfield 48, 3) := by decide +kernel
theorem dX1_aim_56 : decode prog_3_method_2_code 56 = .ok (.putfield 51, 3) := by decide +kernel
theorem dX1_aim_59 : decode prog_3_method_2_code 59 = .ok (.aload_n 0, 1) := by decide +kernel
theorem dX1_aim_60 : decode prog_3_method_2_code 60 = .ok (.aload_n 1, 1) := by decide +kernel
theorem dX1_aim_61 : decode prog_3_method_2_code 61 = .ok (.getfield 54, 3) := by decide +kernel
theorem dX1_aim_64 : decode prog_3_method_2_code 64 = .ok (.aload_n 0, 1) := by decide +kernel
theorem dX1_aim_65 : decode prog_3_method_2_code 65 = .ok (.getfield 33, 3) := by decide +kernel
theorem dX1_aim_68 : decode prog_3_method_2_code 68 = .ok (.iaload, 1) := by decide +kernel
theorem dX1_aim_69 : decode prog_3_method_2_code 69 = .ok (.putfield 57, 3) := by decide +kernel
theorem dX1_aim_72 : decode prog_3_method_2_code 72 = .ok (.aload_n 0, 1) := by decide +kernel
theorem dX1_aim_73 : decode prog_3_method_2_code 73 = .ok (.aload_n 0, 1) := by decide +kernel
theorem dX1_aim_74 : decode prog_3_method_2_code 74 = .ok (.getfield 57, 3) := by decide +kernel
theorem dX1_aim_77 : decode prog_3_method_2_code 77 = .ok (.putfield 60, 3) := by decide +kernel
theorem dX1_aim_80 : decode prog_3_method_2_code 80 = .ok (.aload_n 0, 1) := by decide +kernel
theorem dX1_aim_81 : decode prog_3_method_2_code 81 = .ok (.getfield 33, 3) := by decide +kernel
theorem dX1_aim_84 : decode prog_3_method_2_code 84 = .ok (.istore 4, 2) := by decide +kernel
theorem dX1_aim_86 : decode prog_3_method_2_code 86 = .ok (.iload 4, 2) := by decide +kernel
theorem dX1_aim_88 : decode prog_3_method_2_code 88 = .ok (.aload_n 0, 1) := by decide +kernel
theorem dX1_aim_89 : decode prog_3_method_2_code 89 = .ok (.getfield 42, 3) := by decide +kernel
theorem dX1_aim_92 : decode prog_3_method_2_code 92 = .ok (.if_icmp .ge 81, 3) := by decide +kernel
theorem dX1_aim_95 : decode prog_3_method_2_code 95 = .ok (.aload_n 0, 1) := by decide +kernel
theorem dX1_aim_96 : decode prog_3_method_2_code 96 = .ok (.aload_n 0, 1) := by decide +kernel
theorem dX1_aim_97 : decode prog_3_method_2_code 97 = .ok (.getfield 48, 3) := by decide +kernel
theorem dX1_aim_100 : decode prog_3_method_2_code 100 = .ok (.aload_n 1, 1) := by decide +kernel
theorem dX1_aim_101 : decode prog_3_method_2_code 101 = .ok (.getfield 45, 3) := by decide +kernel
theorem dX1_aim_104 : decode prog_3_method_2_code 104 = .ok (.iload 4, 2) := by decide +kernel
theorem dX1_aim_106 : decode prog_3_method_2_code 106 = .ok (.iaload, 1) := by decide +kernel
theorem dX1_aim_107 : decode prog_3_method_2_code 107 = .ok (.invokestatic 36, 3) := by decide +kernel
theorem dX1_aim_110 : decode prog_3_method_2_code 110 = .ok (.putfield 48, 3) := by decide +kernel
theorem dX1_aim_113 : decode prog_3_method_2_code 113 = .ok (.aload_n 0, 1) := by decide +kernel
theorem dX1_aim_114 : decode prog_3_method_2_code 114 = .ok (.aload_n 0, 1) := by decide +kernel
theorem dX1_aim_115 : decode prog_3_method_2_code 115 = .ok (.getfield 51, 3) := by decide +kernel
theorem dX1_aim_118 : decode prog_3_method_2_code 118 = .ok (.aload_n 1, 1) := by decide +kernel
theorem dX1_aim_119 : decode prog_3_method_2_code 119 = .ok (.getfield 45, 3) := by decide +kernel
theorem dX1_aim_122 : decode prog_3_method_2_code 122 = .ok (.iload 4, 2) := by decide +kernel
theorem dX1_aim_124 : decode prog_3_method_2_code 124 = .ok (.iaload, 1) := by decide +kernel
theorem dX1_aim_125 : decode prog_3_method_2_code 125 = .ok (.invokestatic 63, 3) := by decide +kernel
theorem dX1_aim_128 : decode prog_3_method_2_code 128 = .ok (.putfield 51, 3) := by decide +kernel
theorem dX1_aim_131 : decode prog_3_method_2_code 131 = .ok (.aload_n 0, 1) := by decide +kernel
theorem dX1_aim_132 : decode prog_3_method_2_code 132 = .ok (.aload_n 0, 1) := by decide +kernel
theorem dX1_aim_133 : decode prog_3_method_2_code 133 = .ok (.getfield 57, 3) := by decide +kernel
theorem dX1_aim_136 : decode prog_3_method_2_code 136 = .ok (.aload_n 1, 1) := by decide +kernel
theorem dX1_aim_137 : decode prog_3_method_2_code 137 = .ok (.getfield 54, 3) := by decide +kernel
theorem dX1_aim_140 : decode prog_3_method_2_code 140 = .ok (.iload 4, 2) := by decide +kernel
theorem dX1_aim_142 : decode prog_3_method_2_code 142 = .ok (.iaload, 1) := by decide +kernel
theorem dX1_aim_143 : decode prog_3_method_2_code 143 = .ok (.invokestatic 36, 3) := by decide +kernel
theorem dX1_aim_146 : decode prog_3_method_2_code 146 = .ok (.putfield 57, 3) := by decide +kernel
theorem dX1_aim_149 : decode prog_3_method_2_code 149 = .ok (.aload_n 0, 1) := by decide +kernel
theorem dX1_aim_150 : decode prog_3_method_2_code 150 = .ok (.aload_n 0, 1) := by decide +kernel
theorem dX1_aim_151 : decode prog_3_method_2_code 151 = .ok (.getfield 60, 3) := by decide +kernel
theorem dX1_aim_154 : decode prog_3_method_2_code 154 = .ok (.aload_n 1, 1) := by decide +kernel
theorem dX1_aim_155 : decode prog_3_method_2_code 155 = .ok (.getfield 54, 3) := by decide +kernel
theorem dX1_aim_158 : decode prog_3_method_2_code 158 = .ok (.iload 4, 2) := by decide +kernel
theorem dX1_aim_160 : decode prog_3_method_2_code 160 = .ok (.iaload, 1) := by decide +kernel
theorem dX1_aim_161 : decode prog_3_method_2_code 161 = .ok (.invokestatic 63, 3) := by decide +kernel
theorem dX1_aim_164 : decode prog_3_method_2_code 164 = .ok (.putfield 60, 3) := by decide +kernel
theorem dX1_aim_167 : decode prog_3_method_2_code 167 = .ok (.iinc 4 1, 3) := by decide +kernel
theorem dX1_aim_170 : decode prog_3_method_2_code 170 = .ok (.goto (-84), 3) := by decide +kernel
theorem dX1_aim_173 : decode prog_3_method_2_code 173 = .ok (.return_, 1) := by decide +kernel
theorem dX1_scan_0 : decode prog_3_method_3_code 0 = .ok (.iconst 0, 1) := by decide +kernel
theorem dX1_scan_1 : decode prog_3_method_3_code 1 = .ok (.istore 5, 2) := by decide +kernel
theorem dX1_scan_3 : decode prog_3_method_3_code 3 = .ok (.iload_n 2, 1) := by decide +kernel
theorem dX1_scan_4 : decode prog_3_method_3_code 4 = .ok (.iconst 0, 1) := by decide +kernel
theorem dX1_scan_5 : decode prog_3_method_3_code 5 = .ok (.invokestatic 63, 3) := by decide +kernel
theorem dX1_scan_8 : decode prog_3_method_3_code 8 = .ok (.istore 6, 2) := by decide +kernel
theorem dX1_scan_10 : decode prog_3_method_3_code 10 = .ok (.iload 6, 2) := by decide +kernel
theorem dX1_scan_12 : decode prog_3_method_3_code 12 = .ok (.iconst 1, 1) := by decide +kernel
theorem dX1_scan_13 : decode prog_3_method_3_code 13 = .ok (.iadd, 1) := by decide +kernel
theorem dX1_scan_14 : decode prog_3_method_3_code 14 = .ok (.iload_n 3, 1) := by decide +kernel
theorem dX1_scan_15 : decode prog_3_method_3_code 15 = .ok (.if_icmp .ge 94, 3) := by decide +kernel
theorem dX1_scan_18 : decode prog_3_method_3_code 18 = .ok (.iload 6, 2) := by decide +kernel
theorem dX1_scan_20 : decode prog_3_method_3_code 20 = .ok (.iconst 1, 1) := by decide +kernel
theorem dX1_scan_21 : decode prog_3_method_3_code 21 = .ok (.iadd, 1) := by decide +kernel
theorem dX1_scan_22 : decode prog_3_method_3_code 22 = .ok (.aload_n 1, 1) := by decide +kernel
theorem dX1_scan_23 : decode prog_3_method_3_code 23 = .ok (.getfield 29, 3) := by decide +kernel
theorem dX1_scan_26 : decode prog_3_method_3_code 26 = .ok (.if_icmp .ge 83, 3) := by decide +kernel
theorem dX1_scan_29 : decode prog_3_method_3_code 29 = .ok (.iload 5, 2) := by decide +kernel
theorem dX1_scan_31 : decode prog_3_method_3_code 31 = .ok (.iload 4, 2) := by decide +kernel
theorem dX1_scan_33 : decode prog_3_method_3_code 33 = .ok (.iand, 1) := by decide +kernel
theorem dX1_scan_34 : decode prog_3_method_3_code 34 = .ok (.ifCond .ne 75, 3) := by decide +kernel
theorem dX1_scan_37 : decode prog_3_method_3_code 37 = .ok (.aload_n 1, 1) := by decide +kernel
theorem dX1_scan_38 : decode prog_3_method_3_code 38 = .ok (.getfield 66, 3) := by decide +kernel
theorem dX1_scan_41 : decode prog_3_method_3_code 41 = .ok (.iload 6, 2) := by decide +kernel
theorem dX1_scan_43 : decode prog_3_method_3_code 43 = .ok (.baload, 1) := by decide +kernel
theorem dX1_scan_44 : decode prog_3_method_3_code 44 = .ok (.ifCond .eq 6, 3) := by decide +kernel
theorem dX1_scan_47 : decode prog_3_method_3_code 47 = .ok (.goto 56, 3) := by decide +kernel
theorem dX1_scan_50 : decode prog_3_method_3_code 50 = .ok (.aload_n 0, 1) := by decide +kernel
theorem dX1_scan_51 : decode prog_3_method_3_code 51 = .ok (.aload_n 1, 1) := by decide +kernel
theorem dX1_scan_52 : decode prog_3_method_3_code 52 = .ok (.iload 6, 2) := by decide +kernel
theorem dX1_scan_54 : decode prog_3_method_3_code 54 = .ok (.invokevirtual 70, 3) := by decide +kernel
theorem dX1_scan_57 : decode prog_3_method_3_code 57 = .ok (.ifCond .eq 12, 3) := by decide +kernel
theorem dX1_scan_60 : decode prog_3_method_3_code 60 = .ok (.iload 5, 2) := by decide +kernel
theorem dX1_scan_62 : decode prog_3_method_3_code 62 = .ok (.iconst 2, 1) := by decide +kernel
theorem dX1_scan_63 : decode prog_3_method_3_code 63 = .ok (.ior, 1) := by decide +kernel
theorem dX1_scan_64 : decode prog_3_method_3_code 64 = .ok (.istore 5, 2) := by decide +kernel
theorem dX1_scan_66 : decode prog_3_method_3_code 66 = .ok (.goto 37, 3) := by decide +kernel
theorem dX1_scan_69 : decode prog_3_method_3_code 69 = .ok (.aload_n 0, 1) := by decide +kernel
theorem dX1_scan_70 : decode prog_3_method_3_code 70 = .ok (.aload_n 1, 1) := by decide +kernel
theorem dX1_scan_71 : decode prog_3_method_3_code 71 = .ok (.iload 6, 2) := by decide +kernel
theorem dX1_scan_73 : decode prog_3_method_3_code 73 = .ok (.invokevirtual 74, 3) := by decide +kernel
theorem dX1_scan_76 : decode prog_3_method_3_code 76 = .ok (.aload_n 0, 1) := by decide +kernel
theorem dX1_scan_77 : decode prog_3_method_3_code 77 = .ok (.invokevirtual 78, 3) := by decide +kernel
theorem dX1_scan_80 : decode prog_3_method_3_code 80 = .ok (.iload 5, 2) := by decide +kernel
theorem dX1_scan_82 : decode prog_3_method_3_code 82 = .ok (.aload_n 0, 1) := by decide +kernel
theorem dX1_scan_83 : decode prog_3_method_3_code 83 = .ok (.invokevirtual 81, 3) := by decide +kernel
theorem dX1_scan_86 : decode prog_3_method_3_code 86 = .ok (.ior, 1) := by decide +kernel
theorem dX1_scan_87 : decode prog_3_method_3_code 87 = .ok (.istore 5, 2) := by decide +kernel
theorem dX1_scan_89 : decode prog_3_method_3_code 89 = .ok (.aload_n 0, 1) := by decide +kernel
theorem dX1_scan_90 : decode prog_3_method_3_code 90 = .ok (.getfield 85, 3) := by decide +kernel
theorem dX1_scan_93 : decode prog_3_method_3_code 93 = .ok (.ifCond .eq 10, 3) := by decide +kernel
theorem dX1_scan_96 : decode prog_3_method_3_code 96 = .ok (.iload 5, 2) := by decide +kernel
theorem dX1_scan_98 : decode prog_3_method_3_code 98 = .ok (.bipush 8, 2) := by decide +kernel
theorem dX1_scan_100 : decode prog_3_method_3_code 100 = .ok (.ior, 1) := by decide +kernel
theorem dX1_scan_101 : decode prog_3_method_3_code 101 = .ok (.istore 5, 2) := by decide +kernel
theorem dX1_scan_103 : decode prog_3_method_3_code 103 = .ok (.iinc 6 1, 3) := by decide +kernel
theorem dX1_scan_106 : decode prog_3_method_3_code 106 = .ok (.goto (-96), 3) := by decide +kernel
theorem dX1_scan_109 : decode prog_3_method_3_code 109 = .ok (.iload 5, 2) := by decide +kernel
theorem dX1_scan_111 : decode prog_3_method_3_code 111 = .ok (.ireturn, 1) := by decide +kernel
theorem dX1_isWayApart_0 : decode prog_3_method_4_code 0 = .ok (.aload_n 1, 1) := by decide +kernel
theorem dX1_isWayApart_1 : decode prog_3_method_4_code 1 = .ok (.getfield 45, 3) := by decide +kernel
theorem dX1_isWayApart_4 : decode prog_3_method_4_code 4 = .ok (.iload_n 2, 1) := by decide +kernel
theorem dX1_isWayApart_5 : decode prog_3_method_4_code 5 = .ok (.iaload, 1) := by decide +kernel
theorem dX1_isWayApart_6 : decode prog_3_method_4_code 6 = .ok (.aload_n 1, 1) := by decide +kernel
theorem dX1_isWayApart_7 : decode prog_3_method_4_code 7 = .ok (.getfield 45, 3) := by decide +kernel
theorem dX1_isWayApart_10 : decode prog_3_method_4_code 10 = .ok (.iload_n 2, 1) := by decide +kernel
theorem dX1_isWayApart_11 : decode prog_3_method_4_code 11 = .ok (.iconst 1, 1) := by decide +kernel
theorem dX1_isWayApart_12 : decode prog_3_method_4_code 12 = .ok (.iadd, 1) := by decide +kernel
theorem dX1_isWayApart_13 : decode prog_3_method_4_code 13 = .ok (.iaload, 1) := by decide +kernel
theorem dX1_isWayApart_14 : decode prog_3_method_4_code 14 = .ok (.invokestatic 63, 3) := by decide +kernel
theorem dX1_isWayApart_17 : decode prog_3_method_4_code 17 = .ok (.aload_n 0, 1) := by decide +kernel
theorem dX1_isWayApart_18 : decode prog_3_method_4_code 18 = .ok (.getfield 48, 3) := by decide +kernel
theorem dX1_isWayApart_21 : decode prog_3_method_4_code 21 = .ok (.if_icmp .lt 75, 3) := by decide +kernel
theorem dX1_isWayApart_24 : decode prog_3_method_4_code 24 = .ok (.aload_n 1, 1) := by decide +kernel
theorem dX1_isWayApart_25 : decode prog_3_method_4_code 25 = .ok (.getfield 45, 3) := by decide +kernel
theorem dX1_isWayApart_28 : decode prog_3_method_4_code 28 = .ok (.iload_n 2, 1) := by decide +kernel
theorem dX1_isWayApart_29 : decode prog_3_method_4_code 29 = .ok (.iaload, 1) := by decide +kernel
theorem dX1_isWayApart_30 : decode prog_3_method_4_code 30 = .ok (.aload_n 1, 1) := by decide +kernel
theorem dX1_isWayApart_31 : decode prog_3_method_4_code 31 = .ok (.getfield 45, 3) := by decide +kernel
theorem dX1_isWayApart_34 : decode prog_3_method_4_code 34 = .ok (.iload_n 2, 1) := by decide +kernel
theorem dX1_isWayApart_35 : decode prog_3_method_4_code 35 = .ok (.iconst 1, 1) := by decide +kernel
theorem dX1_isWayApart_36 : decode prog_3_method_4_code 36 = .ok (.iadd, 1) := by decide +kernel
theorem dX1_isWayApart_37 : decode prog_3_method_4_code 37 = .ok (.iaload, 1) := by decide +kernel
theorem dX1_isWayApart_38 : decode prog_3_method_4_code 38 = .ok (.invokestatic 36, 3) := by decide +kernel
theorem dX1_isWayApart_41 : decode prog_3_method_4_code 41 = .ok (.aload_n 0, 1) := by decide +kernel
theorem dX1_isWayApart_42 : decode prog_3_method_4_code 42 = .ok (.getfield 51, 3) := by decide +kernel
theorem dX1_isWayApart_45 : decode prog_3_method_4_code 45 = .ok (.if_icmp .gt 51, 3) := by decide +kernel
theorem dX1_isWayApart_48 : decode prog_3_method_4_code 48 = .ok (.aload_n 1, 1) := by decide +kernel
theorem dX1_isWayApart_49 : decode prog_3_method_4_code 49 = .ok (.getfield 54, 3) := by decide +kernel
theorem dX1_isWayApart_52 : decode prog_3_method_4_code 52 = .ok (.iload_n 2, 1) := by decide +kernel
theorem dX1_isWayApart_53 : decode prog_3_method_4_code 53 = .ok (.iaload, 1) := by decide +kernel
theorem dX1_isWayApart_54 : decode prog_3_method_4_code 54 = .ok (.aload_n 1, 1) := by decide +kernel
theorem dX1_isWayApart_55 : decode prog_3_method_4_code 55 = .ok (.getfield 54, 3) := by decide +kernel
theorem dX1_isWayApart_58 : decode prog_3_method_4_code 58 = .ok (.iload_n 2, 1) := by decide +kernel
theorem dX1_isWayApart_59 : decode prog_3_method_4_code 59 = .ok (.iconst 1, 1) := by decide +kernel
theorem dX1_isWayApart_60 : decode prog_3_method_4_code 60 = .ok (.iadd, 1) := by decide +kernel
theorem dX1_isWayApart_61 : decode prog_3_method_4_code 61 = .ok (.iaload, 1) := by decide +kernel
theorem dX1_isWayApart_62 : decode prog_3_method_4_code 62 = .ok (.invokestatic 63, 3) := by decide +kernel
theorem dX1_isWayApart_65 : decode prog_3_method_4_code 65 = .ok (.aload_n 0, 1) := by decide +kernel
theorem dX1_isWayApart_66 : decode prog_3_method_4_code 66 = .ok (.getfield 57, 3) := by decide +kernel
theorem dX1_isWayApart_69 : decode prog_3_method_4_code 69 = .ok (.if_icmp .lt 27, 3) := by decide +kernel
theorem dX1_isWayApart_72 : decode prog_3_method_4_code 72 = .ok (.aload_n 1, 1) := by decide +kernel
theorem dX1_isWayApart_73 : decode prog_3_method_4_code 73 = .ok (.getfield 54, 3) := by decide +kernel
theorem dX1_isWayApart_76 : decode prog_3_method_4_code 76 = .ok (.iload_n 2, 1) := by decide +kernel
theorem dX1_isWayApart_77 : decode prog_3_method_4_code 77 = .ok (.iaload, 1) := by decide +kernel
theorem dX1_isWayApart_78 : decode prog_3_method_4_code 78 = .ok (.aload_n 1, 1) := by decide +kernel
theorem dX1_isWayApart_79 : decode prog_3_method_4_code 79 = .ok (.getfield 54, 3) := by decide +kernel
theorem dX1_isWayApart_82 : decode prog_3_method_4_code 82 = .ok (.iload_n 2, 1) := by decide +kernel
theorem dX1_isWayApart_83 : decode prog_3_method_4_code 83 = .ok (.iconst 1, 1) := by decide +kernel
theorem dX1_isWayApart_84 : decode prog_3_method_4_code 84 = .ok (.iadd, 1) := by decide +kernel
theorem dX1_isWayApart_85 : decode prog_3_method_4_code 85 = .ok (.iaload, 1) := by decide +kernel
theorem dX1_isWayApart_86 : decode prog_3_method_4_code 86 = .ok (.invokestatic 36, 3) := by decide +kernel
theorem dX1_isWayApart_89 : decode prog_3_method_4_code 89 = .ok (.aload_n 0, 1) := by decide +kernel
theorem dX1_isWayApart_90 : decode prog_3_method_4_code 90 = .ok (.getfield 60, 3) := by decide +kernel
theorem dX1_isWayApart_93 : decode prog_3_method_4_code 93 = .ok (.if_icmp .le 7, 3) := by decide +kernel
theorem dX1_isWayApart_96 : decode prog_3_method_4_code 96 = .ok (.iconst 1, 1) := by decide +kernel
theorem dX1_isWayApart_97 : decode prog_3_method_4_code 97 = .ok (.goto 4, 3) := by decide +kernel
theorem dX1_isWayApart_100 : decode prog_3_method_4_code 100 = .ok (.iconst 0, 1) := by decide +kernel
theorem dX1_isWayApart_101 : decode prog_3_method_4_code 101 = .ok (.ireturn, 1) := by decide +kernel
theorem dX1_gather_0 : decode prog_3_method_5_code 0 = .ok (.aload_n 0, 1) := by decide +kernel
theorem dX1_gather_1 : decode prog_3_method_5_code 1 = .ok (.iconst 0, 1) := by decide +kernel
theorem dX1_gather_2 : decode prog_3_method_5_code 2 = .ok (.putfield 89, 3) := by decide +kernel
theorem dX1_gather_5 : decode prog_3_method_5_code 5 = .ok (.aload_n 0, 1) := by decide +kernel
theorem dX1_gather_6 : decode prog_3_method_5_code 6 = .ok (.iconst 0, 1) := by decide +kernel
theorem dX1_gather_7 : decode prog_3_method_5_code 7 = .ok (.putfield 92, 3) := by decide +kernel
theorem dX1_gather_10 : decode prog_3_method_5_code 10 = .ok (.aload_n 0, 1) := by decide +kernel
theorem dX1_gather_11 : decode prog_3_method_5_code 11 = .ok (.iconst 0, 1) := by decide +kernel
theorem dX1_gather_12 : decode prog_3_method_5_code 12 = .ok (.putfield 95, 3) := by decide +kernel
theorem dX1_gather_15 : decode prog_3_method_5_code 15 = .ok (.aload_n 0, 1) := by decide +kernel
theorem dX1_gather_16 : decode prog_3_method_5_code 16 = .ok (.iconst 0, 1) := by decide +kernel
theorem dX1_gather_17 : decode prog_3_method_5_code 17 = .ok (.putfield 85, 3) := by decide +kernel
theorem dX1_gather_20 : decode prog_3_method_5_code 20 = .ok (.lconst 0, 1) := by decide +kernel
theorem dX1_gather_21 : decode prog_3_method_5_code 21 = .ok (.lstore_n 3, 1) := by decide +kernel
theorem dX1_gather_22 : decode prog_3_method_5_code 22 = .ok (.aload_n 0, 1) := by decide +kernel
theorem dX1_gather_23 : decode prog_3_method_5_code 23 = .ok (.getfield 33, 3) := by decide +kernel
theorem dX1_gather_26 : decode prog_3_method_5_code 26 = .ok (.istore 5, 2) := by decide +kernel
theorem dX1_gather_28 : decode prog_3_method_5_code 28 = .ok (.iload 5, 2) := by decide +kernel
theorem dX1_gather_30 : decode prog_3_method_5_code 30 = .ok (.aload_n 0, 1) := by decide +kernel
theorem dX1_gather_31 : decode prog_3_method_5_code 31 = .ok (.getfield 42, 3) := by decide +kernel
theorem dX1_gather_34 : decode prog_3_method_5_code 34 = .ok (.if_icmp .ge 167, 3) := by decide +kernel
theorem dX1_gather_37 : decode prog_3_method_5_code 37 = .ok (.aload_n 1, 1) := by decide +kernel
theorem dX1_gather_38 : decode prog_3_method_5_code 38 = .ok (.iload_n 2, 1) := by decide +kernel
theorem dX1_gather_39 : decode prog_3_method_5_code 39 = .ok (.aload_n 0, 1) := by decide +kernel
theorem dX1_gather_40 : decode prog_3_method_5_code 40 = .ok (.getfield 12, 3) := by decide +kernel
theorem dX1_gather_43 : decode prog_3_method_5_code 43 = .ok (.getfield 45, 3) := by decide +kernel
theorem dX1_gather_46 : decode prog_3_method_5_code 46 = .ok (.iload 5, 2) := by decide +kernel
theorem dX1_gather_48 : decode prog_3_method_5_code 48 = .ok (.iaload, 1) := by decide +kernel
theorem dX1_gather_49 : decode prog_3_method_5_code 49 = .ok (.i2l, 1) := by decide +kernel
theorem dX1_gather_50 : decode prog_3_method_5_code 50 = .ok (.aload_n 0, 1) := by decide +kernel
theorem dX1_gather_51 : decode prog_3_method_5_code 51 = .ok (.getfield 12, 3) := by decide +kernel
theorem dX1_gather_54 : decode prog_3_method_5_code 54 = .ok (.getfield 54, 3) := by decide +kernel
theorem dX1_gather_57 : decode prog_3_method_5_code 57 = .ok (.iload 5, 2) := by decide +kernel
theorem dX1_gather_59 : decode prog_3_method_5_code 59 = .ok (.iaload, 1) := by decide +kernel
theorem dX1_gather_60 : decode prog_3_method_5_code 60 = .ok (.i2l, 1) := by decide +kernel
theorem dX1_gather_61 : decode prog_3_method_5_code 61 = .ok (.invokestatic 98, 3) := by decide +kernel
theorem dX1_gather_64 : decode prog_3_method_5_code 64 = .ok (.lstore 6, 2) := by decide +kernel
theorem dX1_gather_66 : decode prog_3_method_5_code 66 = .ok (.lload 6, 2) := by decide +kernel
theorem dX1_gather_68 : decode prog_3_method_5_code 68 = .ok (.lconst 0, 1) := by decide +kernel
theorem dX1_gather_69 : decode prog_3_method_5_code 69 = .ok (.lcmp, 1) := by decide +kernel
theorem dX1_gather_70 : decode prog_3_method_5_code 70 = .ok (.ifCond .ne 36, 3) := by decide +kernel
theorem dX1_gather_73 : decode prog_3_method_5_code 73 = .ok (.aload_n 1, 1) := by decide +kernel
theorem dX1_gather_74 : decode prog_3_method_5_code 74 = .ok (.iload_n 2, 1) := by decide +kernel
theorem dX1_gather_75 : decode prog_3_method_5_code 75 = .ok (.aload_n 0, 1) := by decide +kernel
theorem dX1_gather_76 : decode prog_3_method_5_code 76 = .ok (.getfield 12, 3) := by decide +kernel
theorem dX1_gather_79 : decode prog_3_method_5_code 79 = .ok (.getfield 45, 3) := by decide +kernel
theorem dX1_gather_82 : decode prog_3_method_5_code 82 = .ok (.iload 5, 2) := by decide +kernel
theorem dX1_gather_84 : decode prog_3_method_5_code 84 = .ok (.iaload, 1) := by decide +kernel
theorem dX1_gather_85 : decode prog_3_method_5_code 85 = .ok (.aload_n 0, 1) := by decide +kernel
theorem dX1_gather_86 : decode prog_3_method_5_code 86 = .ok (.getfield 12, 3) := by decide +kernel
theorem dX1_gather_89 : decode prog_3_method_5_code 89 = .ok (.getfield 54, 3) := by decide +kernel
theorem dX1_gather_92 : decode prog_3_method_5_code 92 = .ok (.iload 5, 2) := by decide +kernel
theorem dX1_gather_94 : decode prog_3_method_5_code 94 = .ok (.iaload, 1) := by decide +kernel
theorem dX1_gather_95 : decode prog_3_method_5_code 95 = .ok (.invokestatic 104, 3) := by decide +kernel
theorem dX1_gather_98 : decode prog_3_method_5_code 98 = .ok (.ifCond .eq 8, 3) := by decide +kernel
theorem dX1_gather_101 : decode prog_3_method_5_code 101 = .ok (.aload_n 0, 1) := by decide +kernel
theorem dX1_gather_102 : decode prog_3_method_5_code 102 = .ok (.iconst 1, 1) := by decide +kernel
theorem dX1_gather_103 : decode prog_3_method_5_code 103 = .ok (.putfield 85, 3) := by decide +kernel
theorem dX1_gather_106 : decode prog_3_method_5_code 106 = .ok (.iload 5, 2) := by decide +kernel
theorem dX1_gather_108 : decode prog_3_method_5_code 108 = .ok (.aload_n 0, 1) := by decide +kernel
theorem dX1_gather_109 : decode prog_3_method_5_code 109 = .ok (.getfield 33, 3) := by decide +kernel
theorem dX1_gather_112 : decode prog_3_method_5_code 112 = .ok (.if_icmp .le 80, 3) := by decide +kernel
theorem dX1_gather_115 : decode prog_3_method_5_code 115 = .ok (.aload_n 0, 1) := by decide +kernel
theorem dX1_gather_116 : decode prog_3_method_5_code 116 = .ok (.getfield 12, 3) := by decide +kernel
theorem dX1_gather_119 : decode prog_3_method_5_code 119 = .ok (.getfield 66, 3) := by decide +kernel
theorem dX1_gather_122 : decode prog_3_method_5_code 122 = .ok (.iload 5, 2) := by decide +kernel
theorem dX1_gather_124 : decode prog_3_method_5_code 124 = .ok (.iconst 1, 1) := by decide +kernel
theorem dX1_gather_125 : decode prog_3_method_5_code 125 = .ok (.isub, 1) := by decide +kernel
theorem dX1_gather_126 : decode prog_3_method_5_code 126 = .ok (.baload, 1) := by decide +kernel
theorem dX1_gather_127 : decode prog_3_method_5_code 127 = .ok (.ifCond .ne 65, 3) := by decide +kernel
theorem dX1_gather_130 : decode prog_3_method_5_code 130 = .ok (.lload_n 3, 1) := by decide +kernel
theorem dX1_gather_131 : decode prog_3_method_5_code 131 = .ok (.lconst 0, 1) := by decide +kernel
theorem dX1_gather_132 : decode prog_3_method_5_code 132 = .ok (.lcmp, 1) := by decide +kernel
theorem dX1_gather_133 : decode prog_3_method_5_code 133 = .ok (.ifCond .le 7, 3) := by decide +kernel
theorem dX1_gather_136 : decode prog_3_method_5_code 136 = .ok (.iconst 1, 1) := by decide +kernel
theorem dX1_gather_137 : decode prog_3_method_5_code 137 = .ok (.goto 4, 3) := by decide +kernel
theorem dX1_gather_140 : decode prog_3_method_5_code 140 = .ok (.iconst 0, 1) := by decide +kernel
theorem dX1_gather_141 : decode prog_3_method_5_code 141 = .ok (.lload 6, 2) := by decide +kernel
theorem dX1_gather_143 : decode prog_3_method_5_code 143 = .ok (.lconst 0, 1) := by decide +kernel
theorem dX1_gather_144 : decode prog_3_method_5_code 144 = .ok (.lcmp, 1) := by decide +kernel
theorem dX1_gather_145 : decode prog_3_method_5_code 145 = .ok (.ifCond .le 7, 3) := by decide +kernel
theorem dX1_gather_148 : decode prog_3_method_5_code 148 = .ok (.iconst 1, 1) := by decide +kernel
theorem dX1_gather_149 : decode prog_3_method_5_code 149 = .ok (.goto 4, 3) := by decide +kernel
theorem dX1_gather_152 : decode prog_3_method_5_code 152 = .ok (.iconst 0, 1) := by decide +kernel
theorem dX1_gather_153 : decode prog_3_method_5_code 153 = .ok (.if_icmp .eq 18, 3) := by decide +kernel
theorem dX1_gather_156 : decode prog_3_method_5_code 156 = .ok (.aload_n 0, 1) := by decide +kernel
theorem dX1_gather_157 : decode prog_3_method_5_code 157 = .ok (.aload_n 1, 1) := by decide +kernel
theorem dX1_gather_158 : decode prog_3_method_5_code 158 = .ok (.iload_n 2, 1) := by decide +kernel
theorem dX1_gather_159 : decode prog_3_method_5_code 159 = .ok (.iload 5, 2) := by decide +kernel
theorem dX1_gather_161 : decode prog_3_method_5_code 161 = .ok (.lload 6, 2) := by decide +kernel
theorem dX1_gather_163 : decode prog_3_method_5_code 163 = .ok (.lload_n 3, 1) := by decide +kernel
theorem dX1_gather_164 : decode prog_3_method_5_code 164 = .ok (.lsub, 1) := by decide +kernel
theorem dX1_gather_165 : decode prog_3_method_5_code 165 = .ok (.invokevirtual 108, 3) := by decide +kernel
theorem dX1_gather_168 : decode prog_3_method_5_code 168 = .ok (.goto 24, 3) := by decide +kernel
theorem dX1_gather_171 : decode prog_3_method_5_code 171 = .ok (.lload_n 3, 1) := by decide +kernel
theorem dX1_gather_172 : decode prog_3_method_5_code 172 = .ok (.lconst 0, 1) := by decide +kernel
theorem dX1_gather_173 : decode prog_3_method_5_code 173 = .ok (.lcmp, 1) := by decide +kernel
theorem dX1_gather_174 : decode prog_3_method_5_code 174 = .ok (.ifCond .ne 18, 3) := by decide +kernel
theorem dX1_gather_177 : decode prog_3_method_5_code 177 = .ok (.lload 6, 2) := by decide +kernel
theorem dX1_gather_179 : decode prog_3_method_5_code 179 = .ok (.lconst 0, 1) := by decide +kernel
theorem dX1_gather_180 : decode prog_3_method_5_code 180 = .ok (.lcmp, 1) := by decide +kernel
theorem dX1_gather_181 : decode prog_3_method_5_code 181 = .ok (.ifCond .ne 11, 3) := by decide +kernel
theorem dX1_gather_184 : decode prog_3_method_5_code 184 = .ok (.aload_n 0, 1) := by decide +kernel
theorem dX1_gather_185 : decode prog_3_method_5_code 185 = .ok (.aload_n 1, 1) := by decide +kernel
theorem dX1_gather_186 : decode prog_3_method_5_code 186 = .ok (.iload_n 2, 1) := by decide +kernel
theorem dX1_gather_187 : decode prog_3_method_5_code 187 = .ok (.iload 5, 2) := by decide +kernel
theorem dX1_gather_189 : decode prog_3_method_5_code 189 = .ok (.invokevirtual 112, 3) := by decide +kernel
theorem dX1_gather_192 : decode prog_3_method_5_code 192 = .ok (.lload 6, 2) := by decide +kernel
theorem dX1_gather_194 : decode prog_3_method_5_code 194 = .ok (.lstore_n 3, 1) := by decide +kernel
theorem dX1_gather_195 : decode prog_3_method_5_code 195 = .ok (.iinc 5 1, 3) := by decide +kernel
theorem dX1_gather_198 : decode prog_3_method_5_code 198 = .ok (.goto (-170), 3) := by decide +kernel
theorem dX1_gather_201 : decode prog_3_method_5_code 201 = .ok (.return_, 1) := by decide +kernel
theorem dX1_cross_0 : decode prog_3_method_6_code 0 = .ok (.aload_n 0, 1) := by decide +kernel
theorem dX1_cross_1 : decode prog_3_method_6_code 1 = .ok (.getfield 12, 3) := by decide +kernel
theorem dX1_cross_4 : decode prog_3_method_6_code 4 = .ok (.getfield 45, 3) := by decide +kernel
theorem dX1_cross_7 : decode prog_3_method_6_code 7 = .ok (.iload_n 3, 1) := by decide +kernel
theorem dX1_cross_8 : decode prog_3_method_6_code 8 = .ok (.iconst 1, 1) := by decide +kernel
theorem dX1_cross_9 : decode prog_3_method_6_code 9 = .ok (.isub, 1) := by decide +kernel
theorem dX1_cross_10 : decode prog_3_method_6_code 10 = .ok (.iaload, 1) := by decide +kernel
theorem dX1_cross_11 : decode prog_3_method_6_code 11 = .ok (.i2l, 1) := by decide +kernel
theorem dX1_cross_12 : decode prog_3_method_6_code 12 = .ok (.lstore 6, 2) := by decide +kernel
theorem dX1_cross_14 : decode prog_3_method_6_code 14 = .ok (.aload_n 0, 1) := by decide +kernel
theorem dX1_cross_15 : decode prog_3_method_6_code 15 = .ok (.getfield 12, 3) := by decide +kernel
theorem dX1_cross_18 : decode prog_3_method_6_code 18 = .ok (.getfield 54, 3) := by decide +kernel
theorem dX1_cross_21 : decode prog_3_method_6_code 21 = .ok (.iload_n 3, 1) := by decide +kernel
theorem dX1_cross_22 : decode prog_3_method_6_code 22 = .ok (.iconst 1, 1) := by decide +kernel
theorem dX1_cross_23 : decode prog_3_method_6_code 23 = .ok (.isub, 1) := by decide +kernel
theorem dX1_cross_24 : decode prog_3_method_6_code 24 = .ok (.iaload, 1) := by decide +kernel
theorem dX1_cross_25 : decode prog_3_method_6_code 25 = .ok (.i2l, 1) := by decide +kernel
theorem dX1_cross_26 : decode prog_3_method_6_code 26 = .ok (.lstore 8, 2) := by decide +kernel
theorem dX1_cross_28 : decode prog_3_method_6_code 28 = .ok (.lload 6, 2) := by decide +kernel
theorem dX1_cross_30 : decode prog_3_method_6_code 30 = .ok (.aload_n 1, 1) := by decide +kernel
theorem dX1_cross_31 : decode prog_3_method_6_code 31 = .ok (.getfield 45, 3) := by decide +kernel
theorem dX1_cross_34 : decode prog_3_method_6_code 34 = .ok (.iload_n 2, 1) := by decide +kernel
theorem dX1_cross_35 : decode prog_3_method_6_code 35 = .ok (.iaload, 1) := by decide +kernel
theorem dX1_cross_36 : decode prog_3_method_6_code 36 = .ok (.i2l, 1) := by decide +kernel
theorem dX1_cross_37 : decode prog_3_method_6_code 37 = .ok (.lsub, 1) := by decide +kernel
theorem dX1_cross_38 : decode prog_3_method_6_code 38 = .ok (.aload_n 0, 1) := by decide +kernel
theorem dX1_cross_39 : decode prog_3_method_6_code 39 = .ok (.getfield 12, 3) := by decide +kernel
theorem dX1_cross_42 : decode prog_3_method_6_code 42 = .ok (.getfield 54, 3) := by decide +kernel
theorem dX1_cross_45 : decode prog_3_method_6_code 45 = .ok (.iload_n 3, 1) := by decide +kernel
theorem dX1_cross_46 : decode prog_3_method_6_code 46 = .ok (.iaload, 1) := by decide +kernel
theorem dX1_cross_47 : decode prog_3_method_6_code 47 = .ok (.i2l, 1) := by decide +kernel
theorem dX1_cross_48 : decode prog_3_method_6_code 48 = .ok (.lload 8, 2) := by decide +kernel
theorem dX1_cross_50 : decode prog_3_method_6_code 50 = .ok (.lsub, 1) := by decide +kernel
theorem dX1_cross_51 : decode prog_3_method_6_code 51 = .ok (.lmul, 1) := by decide +kernel
theorem dX1_cross_52 : decode prog_3_method_6_code 52 = .ok (.lload 8, 2) := by decide +kernel
theorem dX1_cross_54 : decode prog_3_method_6_code 54 = .ok (.aload_n 1, 1) := by decide +kernel
theorem dX1_cross_55 : decode prog_3_method_6_code 55 = .ok (.getfield 54, 3) := by decide +kernel
theorem dX1_cross_58 : decode prog_3_method_6_code 58 = .ok (.iload_n 2, 1) := by decide +kernel
theorem dX1_cross_59 : decode prog_3_method_6_code 59 = .ok (.iaload, 1) := by decide +kernel
theorem dX1_cross_60 : decode prog_3_method_6_code 60 = .ok (.i2l, 1) := by decide +kernel
theorem dX1_cross_61 : decode prog_3_method_6_code 61 = .ok (.lsub, 1) := by decide +kernel
theorem dX1_cross_62 : decode prog_3_method_6_code 62 = .ok (.aload_n 0, 1) := by decide +kernel
theorem dX1_cross_63 : decode prog_3_method_6_code 63 = .ok (.getfield 12, 3) := by decide +kernel
theorem dX1_cross_66 : decode prog_3_method_6_code 66 = .ok (.getfield 45, 3) := by decide +kernel
theorem dX1_cross_69 : decode prog_3_method_6_code 69 = .ok (.iload_n 3, 1) := by decide +kernel
theorem dX1_cross_70 : decode prog_3_method_6_code 70 = .ok (.iaload, 1) := by decide +kernel
theorem dX1_cross_71 : decode prog_3_method_6_code 71 = .ok (.i2l, 1) := by decide +kernel
theorem dX1_cross_72 : decode prog_3_method_6_code 72 = .ok (.lload 6, 2) := by decide +kernel
theorem dX1_cross_74 : decode prog_3_method_6_code 74 = .ok (.lsub, 1) := by decide +kernel
theorem dX1_cross_75 : decode prog_3_method_6_code 75 = .ok (.lmul, 1) := by decide +kernel
theorem dX1_cross_76 : decode prog_3_method_6_code 76 = .ok (.lsub, 1) := by decide +kernel
theorem dX1_cross_77 : decode prog_3_method_6_code 77 = .ok (.lstore 10, 2) := by decide +kernel
theorem dX1_cross_79 : decode prog_3_method_6_code 79 = .ok (.lload 4, 2) := by decide +kernel
theorem dX1_cross_81 : decode prog_3_method_6_code 81 = .ok (.lstore 12, 2) := by decide +kernel
theorem dX1_cross_83 : decode prog_3_method_6_code 83 = .ok (.lload 12, 2) := by decide +kernel
theorem dX1_cross_85 : decode prog_3_method_6_code 85 = .ok (.lconst 0, 1) := by decide +kernel
theorem dX1_cross_86 : decode prog_3_method_6_code 86 = .ok (.lcmp, 1) := by decide +kernel
theorem dX1_cross_87 : decode prog_3_method_6_code 87 = .ok (.ifCond .ge 13, 3) := by decide +kernel
theorem dX1_cross_90 : decode prog_3_method_6_code 90 = .ok (.lload 12, 2) := by decide +kernel
theorem dX1_cross_92 : decode prog_3_method_6_code 92 = .ok (.lneg, 1) := by decide +kernel
theorem dX1_cross_93 : decode prog_3_method_6_code 93 = .ok (.lstore 12, 2) := by decide +kernel
theorem dX1_cross_95 : decode prog_3_method_6_code 95 = .ok (.lload 10, 2) := by decide +kernel
theorem dX1_cross_97 : decode prog_3_method_6_code 97 = .ok (.lneg, 1) := by decide +kernel
theorem dX1_cross_98 : decode prog_3_method_6_code 98 = .ok (.lstore 10, 2) := by decide +kernel
theorem dX1_cross_100 : decode prog_3_method_6_code 100 = .ok (.lload 10, 2) := by decide +kernel
theorem dX1_cross_102 : decode prog_3_method_6_code 102 = .ok (.lconst 0, 1) := by decide +kernel
theorem dX1_cross_103 : decode prog_3_method_6_code 103 = .ok (.lcmp, 1) := by decide +kernel
theorem dX1_cross_104 : decode prog_3_method_6_code 104 = .ok (.ifCond .lt 16, 3) := by decide +kernel
theorem dX1_cross_107 : decode prog_3_method_6_code 107 = .ok (.lload 10, 2) := by decide +kernel
theorem dX1_cross_109 : decode prog_3_method_6_code 109 = .ok (.lload 12, 2) := by decide +kernel
theorem dX1_cross_111 : decode prog_3_method_6_code 111 = .ok (.lcmp, 1) := by decide +kernel
theorem dX1_cross_112 : decode prog_3_method_6_code 112 = .ok (.ifCond .gt 8, 3) := by decide +kernel
theorem dX1_cross_115 : decode prog_3_method_6_code 115 = .ok (.aload_n 0, 1) := by decide +kernel
theorem dX1_cross_116 : decode prog_3_method_6_code 116 = .ok (.iconst 1, 1) := by decide +kernel
theorem dX1_cross_117 : decode prog_3_method_6_code 117 = .ok (.putfield 85, 3) := by decide +kernel
theorem dX1_cross_120 : decode prog_3_method_6_code 120 = .ok (.lload 10, 2) := by decide +kernel
theorem dX1_cross_122 : decode prog_3_method_6_code 122 = .ok (.lconst 0, 1) := by decide +kernel
theorem dX1_cross_123 : decode prog_3_method_6_code 123 = .ok (.lcmp, 1) := by decide +kernel
theorem dX1_cross_124 : decode prog_3_method_6_code 124 = .ok (.ifCond .le 19, 3) := by decide +kernel
theorem dX1_cross_127 : decode prog_3_method_6_code 127 = .ok (.aload_n 0, 1) := by decide +kernel
theorem dX1_cross_128 : decode prog_3_method_6_code 128 = .ok (.aload_n 0, 1) := by decide +kernel
theorem dX1_cross_129 : decode prog_3_method_6_code 129 = .ok (.getfield 92, 3) := by decide +kernel
theorem dX1_cross_132 : decode prog_3_method_6_code 132 = .ok (.ifCond .ne 7, 3) := by decide +kernel
theorem dX1_cross_135 : decode prog_3_method_6_code 135 = .ok (.iconst 1, 1) := by decide +kernel
theorem dX1_cross_136 : decode prog_3_method_6_code 136 = .ok (.goto 4, 3) := by decide +kernel
theorem dX1_cross_139 : decode prog_3_method_6_code 139 = .ok (.iconst 0, 1) := by decide +kernel
theorem dX1_cross_140 : decode prog_3_method_6_code 140 = .ok (.putfield 92, 3) := by decide +kernel
theorem dX1_cross_143 : decode prog_3_method_6_code 143 = .ok (.lload 10, 2) := by decide +kernel
theorem dX1_cross_145 : decode prog_3_method_6_code 145 = .ok (.lconst 0, 1) := by decide +kernel
theorem dX1_cross_146 : decode prog_3_method_6_code 146 = .ok (.lcmp, 1) := by decide +kernel
theorem dX1_cross_147 : decode prog_3_method_6_code 147 = .ok (.ifCond .le 20, 3) := by decide +kernel
theorem dX1_cross_150 : decode prog_3_method_6_code 150 = .ok (.lload 10, 2) := by decide +kernel
theorem dX1_cross_152 : decode prog_3_method_6_code 152 = .ok (.lload 12, 2) := by decide +kernel
theorem dX1_cross_154 : decode prog_3_method_6_code 154 = .ok (.lcmp, 1) := by decide +kernel
theorem dX1_cross_155 : decode prog_3_method_6_code 155 = .ok (.ifCond .ge 12, 3) := by decide +kernel
theorem dX1_cross_158 : decode prog_3_method_6_code 158 = .ok (.aload_n 0, 1) := by decide +kernel
theorem dX1_cross_159 : decode prog_3_method_6_code 159 = .ok (.lload 10, 2) := by decide +kernel
theorem dX1_cross_161 : decode prog_3_method_6_code 161 = .ok (.lload 12, 2) := by decide +kernel
theorem dX1_cross_163 : decode prog_3_method_6_code 163 = .ok (.iconst 0, 1) := by decide +kernel
theorem dX1_cross_164 : decode prog_3_method_6_code 164 = .ok (.invokevirtual 116, 3) := by decide +kernel
theorem dX1_cross_167 : decode prog_3_method_6_code 167 = .ok (.return_, 1) := by decide +kernel
theorem dX1_goAlong_0 : decode prog_3_method_7_code 0 = .ok (.aload_n 1, 1) := by decide +kernel
theorem dX1_goAlong_1 : decode prog_3_method_7_code 1 = .ok (.getfield 45, 3) := by decide +kernel
theorem dX1_goAlong_4 : decode prog_3_method_7_code 4 = .ok (.iload_n 2, 1) := by decide +kernel
theorem dX1_goAlong_5 : decode prog_3_method_7_code 5 = .ok (.iaload, 1) := by decide +kernel
theorem dX1_goAlong_6 : decode prog_3_method_7_code 6 = .ok (.aload_n 1, 1) := by decide +kernel
theorem dX1_goAlong_7 : decode prog_3_method_7_code 7 = .ok (.getfield 45, 3) := by decide +kernel
theorem dX1_goAlong_10 : decode prog_3_method_7_code 10 = .ok (.iload_n 2, 1) := by decide +kernel
theorem dX1_goAlong_11 : decode prog_3_method_7_code 11 = .ok (.iconst 1, 1) := by decide +kernel
theorem dX1_goAlong_12 : decode prog_3_method_7_code 12 = .ok (.iadd, 1) := by decide +kernel
theorem dX1_goAlong_13 : decode prog_3_method_7_code 13 = .ok (.iaload, 1) := by decide +kernel
theorem dX1_goAlong_14 : decode prog_3_method_7_code 14 = .ok (.if_icmp .eq 7, 3) := by decide +kernel
theorem dX1_goAlong_17 : decode prog_3_method_7_code 17 = .ok (.iconst 1, 1) := by decide +kernel
theorem dX1_goAlong_18 : decode prog_3_method_7_code 18 = .ok (.goto 4, 3) := by decide +kernel
theorem dX1_goAlong_21 : decode prog_3_method_7_code 21 = .ok (.iconst 0, 1) := by decide +kernel
theorem dX1_goAlong_22 : decode prog_3_method_7_code 22 = .ok (.istore 4, 2) := by decide +kernel
theorem dX1_goAlong_24 : decode prog_3_method_7_code 24 = .ok (.iload 4, 2) := by decide +kernel
theorem dX1_goAlong_26 : decode prog_3_method_7_code 26 = .ok (.ifCond .eq 10, 3) := by decide +kernel
theorem dX1_goAlong_29 : decode prog_3_method_7_code 29 = .ok (.aload_n 1, 1) := by decide +kernel
theorem dX1_goAlong_30 : decode prog_3_method_7_code 30 = .ok (.getfield 45, 3) := by decide +kernel
theorem dX1_goAlong_33 : decode prog_3_method_7_code 33 = .ok (.goto 7, 3) := by decide +kernel
theorem dX1_goAlong_36 : decode prog_3_method_7_code 36 = .ok (.aload_n 1, 1) := by decide +kernel
theorem dX1_goAlong_37 : decode prog_3_method_7_code 37 = .ok (.getfield 54, 3) := by decide +kernel
theorem dX1_goAlong_40 : decode prog_3_method_7_code 40 = .ok (.astore 5, 2) := by decide +kernel
theorem dX1_goAlong_42 : decode prog_3_method_7_code 42 = .ok (.iload 4, 2) := by decide +kernel
theorem dX1_goAlong_44 : decode prog_3_method_7_code 44 = .ok (.ifCond .eq 13, 3) := by decide +kernel
theorem dX1_goAlong_47 : decode prog_3_method_7_code 47 = .ok (.aload_n 0, 1) := by decide +kernel
theorem dX1_goAlong_48 : decode prog_3_method_7_code 48 = .ok (.getfield 12, 3) := by decide +kernel
theorem dX1_goAlong_51 : decode prog_3_method_7_code 51 = .ok (.getfield 45, 3) := by decide +kernel
theorem dX1_goAlong_54 : decode prog_3_method_7_code 54 = .ok (.goto 10, 3) := by decide +kernel
theorem dX1_goAlong_57 : decode prog_3_method_7_code 57 = .ok (.aload_n 0, 1) := by decide +kernel
theorem dX1_goAlong_58 : decode prog_3_method_7_code 58 = .ok (.getfield 12, 3) := by decide +kernel
theorem dX1_goAlong_61 : decode prog_3_method_7_code 61 = .ok (.getfield 54, 3) := by decide +kernel
theorem dX1_goAlong_64 : decode prog_3_method_7_code 64 = .ok (.astore 6, 2) := by decide +kernel
theorem dX1_goAlong_66 : decode prog_3_method_7_code 66 = .ok (.aload 5, 2) := by decide +kernel
theorem dX1_goAlong_68 : decode prog_3_method_7_code 68 = .ok (.iload_n 2, 1) := by decide +kernel
theorem dX1_goAlong_69 : decode prog_3_method_7_code 69 = .ok (.iconst 1, 1) := by decide +kernel
theorem dX1_goAlong_70 : decode prog_3_method_7_code 70 = .ok (.iadd, 1) := by decide +kernel
theorem dX1_goAlong_71 : decode prog_3_method_7_code 71 = .ok (.iaload, 1) := by decide +kernel
theorem dX1_goAlong_72 : decode prog_3_method_7_code 72 = .ok (.i2l, 1) := by decide +kernel
theorem dX1_goAlong_73 : decode prog_3_method_7_code 73 = .ok (.aload 5, 2) := by decide +kernel
theorem dX1_goAlong_75 : decode prog_3_method_7_code 75 = .ok (.iload_n 2, 1) := by decide +kernel
theorem dX1_goAlong_76 : decode prog_3_method_7_code 76 = .ok (.iaload, 1) := by decide +kernel
theorem dX1_goAlong_77 : decode prog_3_method_7_code 77 = .ok (.i2l, 1) := by decide +kernel
theorem dX1_goAlong_78 : decode prog_3_method_7_code 78 = .ok (.lsub, 1) := by decide +kernel
theorem dX1_goAlong_79 : decode prog_3_method_7_code 79 = .ok (.lstore 7, 2) := by decide +kernel
theorem dX1_goAlong_81 : decode prog_3_method_7_code 81 = .ok (.aload 6, 2) := by decide +kernel
theorem dX1_goAlong_83 : decode prog_3_method_7_code 83 = .ok (.iload_n 3, 1) := by decide +kernel
theorem dX1_goAlong_84 : decode prog_3_method_7_code 84 = .ok (.iconst 1, 1) := by decide +kernel
theorem dX1_goAlong_85 : decode prog_3_method_7_code 85 = .ok (.isub, 1) := by decide +kernel
theorem dX1_goAlong_86 : decode prog_3_method_7_code 86 = .ok (.iaload, 1) := by decide +kernel
theorem dX1_goAlong_87 : decode prog_3_method_7_code 87 = .ok (.i2l, 1) := by decide +kernel
theorem dX1_goAlong_88 : decode prog_3_method_7_code 88 = .ok (.aload 5, 2) := by decide +kernel
theorem dX1_goAlong_90 : decode prog_3_method_7_code 90 = .ok (.iload_n 2, 1) := by decide +kernel
theorem dX1_goAlong_91 : decode prog_3_method_7_code 91 = .ok (.iaload, 1) := by decide +kernel
theorem dX1_goAlong_92 : decode prog_3_method_7_code 92 = .ok (.i2l, 1) := by decide +kernel
theorem dX1_goAlong_93 : decode prog_3_method_7_code 93 = .ok (.lsub, 1) := by decide +kernel
theorem dX1_goAlong_94 : decode prog_3_method_7_code 94 = .ok (.lstore 9, 2) := by decide +kernel
theorem dX1_goAlong_96 : decode prog_3_method_7_code 96 = .ok (.aload 6, 2) := by decide +kernel
theorem dX1_goAlong_98 : decode prog_3_method_7_code 98 = .ok (.iload_n 3, 1) := by decide +kernel
theorem dX1_goAlong_99 : decode prog_3_method_7_code 99 = .ok (.iaload, 1) := by decide +kernel
theorem dX1_goAlong_100 : decode prog_3_method_7_code 100 = .ok (.i2l, 1) := by decide +kernel
theorem dX1_goAlong_101 : decode prog_3_method_7_code 101 = .ok (.aload 5, 2) := by decide +kernel
theorem dX1_goAlong_103 : decode prog_3_method_7_code 103 = .ok (.iload_n 2, 1) := by decide +kernel
theorem dX1_goAlong_104 : decode prog_3_method_7_code 104 = .ok (.iaload, 1) := by decide +kernel
theorem dX1_goAlong_105 : decode prog_3_method_7_code 105 = .ok (.i2l, 1) := by decide +kernel
theorem dX1_goAlong_106 : decode prog_3_method_7_code 106 = .ok (.lsub, 1) := by decide +kernel
theorem dX1_goAlong_107 : decode prog_3_method_7_code 107 = .ok (.lstore 11, 2) := by decide +kernel
theorem dX1_goAlong_109 : decode prog_3_method_7_code 109 = .ok (.lload 7, 2) := by decide +kernel
theorem dX1_goAlong_111 : decode prog_3_method_7_code 111 = .ok (.lconst 0, 1) := by decide +kernel
theorem dX1_goAlong_112 : decode prog_3_method_7_code 112 = .ok (.lcmp, 1) := by decide +kernel
theorem dX1_goAlong_113 : decode prog_3_method_7_code 113 = .ok (.ifCond .ge 18, 3) := by decide +kernel
theorem dX1_goAlong_116 : decode prog_3_method_7_code 116 = .ok (.lload 7, 2) := by decide +kernel
theorem dX1_goAlong_118 : decode prog_3_method_7_code 118 = .ok (.lneg, 1) := by decide +kernel
theorem dX1_goAlong_119 : decode prog_3_method_7_code 119 = .ok (.lstore 7, 2) := by decide +kernel
theorem dX1_goAlong_121 : decode prog_3_method_7_code 121 = .ok (.lload 9, 2) := by decide +kernel
theorem dX1_goAlong_123 : decode prog_3_method_7_code 123 = .ok (.lneg, 1) := by decide +kernel
theorem dX1_goAlong_124 : decode prog_3_method_7_code 124 = .ok (.lstore 9, 2) := by decide +kernel
theorem dX1_goAlong_126 : decode prog_3_method_7_code 126 = .ok (.lload 11, 2) := by decide +kernel
theorem dX1_goAlong_128 : decode prog_3_method_7_code 128 = .ok (.lneg, 1) := by decide +kernel
theorem dX1_goAlong_129 : decode prog_3_method_7_code 129 = .ok (.lstore 11, 2) := by decide +kernel
theorem dX1_goAlong_131 : decode prog_3_method_7_code 131 = .ok (.lload 9, 2) := by decide +kernel
theorem dX1_goAlong_133 : decode prog_3_method_7_code 133 = .ok (.lload 11, 2) := by decide +kernel
theorem dX1_goAlong_135 : decode prog_3_method_7_code 135 = .ok (.invokestatic 120, 3) := by decide +kernel
theorem dX1_goAlong_138 : decode prog_3_method_7_code 138 = .ok (.lstore 13, 2) := by decide +kernel
theorem dX1_goAlong_140 : decode prog_3_method_7_code 140 = .ok (.lload 9, 2) := by decide +kernel
theorem dX1_goAlong_142 : decode prog_3_method_7_code 142 = .ok (.lload 11, 2) := by decide +kernel
theorem dX1_goAlong_144 : decode prog_3_method_7_code 144 = .ok (.invokestatic 123, 3) := by decide +kernel
theorem dX1_goAlong_147 : decode prog_3_method_7_code 147 = .ok (.lstore 15, 2) := by decide +kernel
theorem dX1_goAlong_149 : decode prog_3_method_7_code 149 = .ok (.lload 15, 2) := by decide +kernel
theorem dX1_goAlong_151 : decode prog_3_method_7_code 151 = .ok (.lconst 0, 1) := by decide +kernel
theorem dX1_goAlong_152 : decode prog_3_method_7_code 152 = .ok (.lcmp, 1) := by decide +kernel
theorem dX1_goAlong_153 : decode prog_3_method_7_code 153 = .ok (.ifCond .le 11, 3) := by decide +kernel
theorem dX1_goAlong_156 : decode prog_3_method_7_code 156 = .ok (.lload 13, 2) := by decide +kernel
theorem dX1_goAlong_158 : decode prog_3_method_7_code 158 = .ok (.lload 7, 2) := by decide +kernel
theorem dX1_goAlong_160 : decode prog_3_method_7_code 160 = .ok (.lcmp, 1) := by decide +kernel
theorem dX1_goAlong_161 : decode prog_3_method_7_code 161 = .ok (.ifCond .lt 4, 3) := by decide +kernel
theorem dX1_goAlong_164 : decode prog_3_method_7_code 164 = .ok (.return_, 1) := by decide +kernel
theorem dX1_goAlong_165 : decode prog_3_method_7_code 165 = .ok (.lload 13, 2) := by decide +kernel
theorem dX1_goAlong_167 : decode prog_3_method_7_code 167 = .ok (.lconst 0, 1) := by decide +kernel
theorem dX1_goAlong_168 : decode prog_3_method_7_code 168 = .ok (.lcmp, 1) := by decide +kernel
theorem dX1_goAlong_169 : decode prog_3_method_7_code 169 = .ok (.ifCond .le 15, 3) := by decide +kernel
theorem dX1_goAlong_172 : decode prog_3_method_7_code 172 = .ok (.aload_n 0, 1) := by decide +kernel
theorem dX1_goAlong_173 : decode prog_3_method_7_code 173 = .ok (.lload 13, 2) := by decide +kernel
theorem dX1_goAlong_175 : decode prog_3_method_7_code 175 = .ok (.lload 7, 2) := by decide +kernel
theorem dX1_goAlong_177 : decode prog_3_method_7_code 177 = .ok (.iconst 1, 1) := by decide +kernel
theorem dX1_goAlong_178 : decode prog_3_method_7_code 178 = .ok (.invokevirtual 116, 3) := by decide +kernel
theorem dX1_goAlong_181 : decode prog_3_method_7_code 181 = .ok (.goto 13, 3) := by decide +kernel
theorem dX1_goAlong_184 : decode prog_3_method_7_code 184 = .ok (.aload_n 0, 1) := by decide +kernel
theorem dX1_goAlong_185 : decode prog_3_method_7_code 185 = .ok (.dup, 1) := by decide +kernel
theorem dX1_goAlong_186 : decode prog_3_method_7_code 186 = .ok (.getfield 95, 3) := by decide +kernel
theorem dX1_goAlong_189 : decode prog_3_method_7_code 189 = .ok (.iconst 1, 1) := by decide +kernel
theorem dX1_goAlong_190 : decode prog_3_method_7_code 190 = .ok (.iadd, 1) := by decide +kernel
theorem dX1_goAlong_191 : decode prog_3_method_7_code 191 = .ok (.putfield 95, 3) := by decide +kernel
theorem dX1_goAlong_194 : decode prog_3_method_7_code 194 = .ok (.lload 15, 2) := by decide +kernel
theorem dX1_goAlong_196 : decode prog_3_method_7_code 196 = .ok (.lload 7, 2) := by decide +kernel
theorem dX1_goAlong_198 : decode prog_3_method_7_code 198 = .ok (.lcmp, 1) := by decide +kernel
theorem dX1_goAlong_199 : decode prog_3_method_7_code 199 = .ok (.ifCond .ge 12, 3) := by decide +kernel
theorem dX1_goAlong_202 : decode prog_3_method_7_code 202 = .ok (.aload_n 0, 1) := by decide +kernel
theorem dX1_goAlong_203 : decode prog_3_method_7_code 203 = .ok (.lload 15, 2) := by decide +kernel
theorem dX1_goAlong_205 : decode prog_3_method_7_code 205 = .ok (.lload 7, 2) := by decide +kernel
theorem dX1_goAlong_207 : decode prog_3_method_7_code 207 = .ok (.iconst (-1), 1) := by decide +kernel
theorem dX1_goAlong_208 : decode prog_3_method_7_code 208 = .ok (.invokevirtual 116, 3) := by decide +kernel
theorem dX1_goAlong_211 : decode prog_3_method_7_code 211 = .ok (.return_, 1) := by decide +kernel
theorem dX1_noteCut_0 : decode prog_3_method_8_code 0 = .ok (.aload_n 0, 1) := by decide +kernel
theorem dX1_noteCut_1 : decode prog_3_method_8_code 1 = .ok (.getfield 89, 3) := by decide +kernel
theorem dX1_noteCut_4 : decode prog_3_method_8_code 4 = .ok (.bipush 80, 2) := by decide +kernel
theorem dX1_noteCut_6 : decode prog_3_method_8_code 6 = .ok (.if_icmp .ge 44, 3) := by decide +kernel
theorem dX1_noteCut_9 : decode prog_3_method_8_code 9 = .ok (.aload_n 0, 1) := by decide +kernel
theorem dX1_noteCut_10 : decode prog_3_method_8_code 10 = .ok (.getfield 18, 3) := by decide +kernel
theorem dX1_noteCut_13 : decode prog_3_method_8_code 13 = .ok (.aload_n 0, 1) := by decide +kernel
theorem dX1_noteCut_14 : decode prog_3_method_8_code 14 = .ok (.getfield 89, 3) := by decide +kernel
theorem dX1_noteCut_17 : decode prog_3_method_8_code 17 = .ok (.lload_n 1, 1) := by decide +kernel
theorem dX1_noteCut_18 : decode prog_3_method_8_code 18 = .ok (.lastore, 1) := by decide +kernel
theorem dX1_noteCut_19 : decode prog_3_method_8_code 19 = .ok (.aload_n 0, 1) := by decide +kernel
theorem dX1_noteCut_20 : decode prog_3_method_8_code 20 = .ok (.getfield 22, 3) := by decide +kernel
theorem dX1_noteCut_23 : decode prog_3_method_8_code 23 = .ok (.aload_n 0, 1) := by decide +kernel
theorem dX1_noteCut_24 : decode prog_3_method_8_code 24 = .ok (.getfield 89, 3) := by decide +kernel
theorem dX1_noteCut_27 : decode prog_3_method_8_code 27 = .ok (.lload_n 3, 1) := by decide +kernel
theorem dX1_noteCut_28 : decode prog_3_method_8_code 28 = .ok (.lastore, 1) := by decide +kernel
theorem dX1_noteCut_29 : decode prog_3_method_8_code 29 = .ok (.aload_n 0, 1) := by decide +kernel
theorem dX1_noteCut_30 : decode prog_3_method_8_code 30 = .ok (.getfield 25, 3) := by decide +kernel
theorem dX1_noteCut_33 : decode prog_3_method_8_code 33 = .ok (.aload_n 0, 1) := by decide +kernel
theorem dX1_noteCut_34 : decode prog_3_method_8_code 34 = .ok (.getfield 89, 3) := by decide +kernel
theorem dX1_noteCut_37 : decode prog_3_method_8_code 37 = .ok (.iload 5, 2) := by decide +kernel
theorem dX1_noteCut_39 : decode prog_3_method_8_code 39 = .ok (.iastore, 1) := by decide +kernel
theorem dX1_noteCut_40 : decode prog_3_method_8_code 40 = .ok (.aload_n 0, 1) := by decide +kernel
theorem dX1_noteCut_41 : decode prog_3_method_8_code 41 = .ok (.dup, 1) := by decide +kernel
theorem dX1_noteCut_42 : decode prog_3_method_8_code 42 = .ok (.getfield 89, 3) := by decide +kernel
theorem dX1_noteCut_45 : decode prog_3_method_8_code 45 = .ok (.iconst 1, 1) := by decide +kernel
theorem dX1_noteCut_46 : decode prog_3_method_8_code 46 = .ok (.iadd, 1) := by decide +kernel
theorem dX1_noteCut_47 : decode prog_3_method_8_code 47 = .ok (.putfield 89, 3) := by decide +kernel
theorem dX1_noteCut_50 : decode prog_3_method_8_code 50 = .ok (.return_, 1) := by decide +kernel
theorem dX1_sortCuts_0 : decode prog_3_method_9_code 0 = .ok (.iconst 1, 1) := by decide +kernel
theorem dX1_sortCuts_1 : decode prog_3_method_9_code 1 = .ok (.istore_n 1, 1) := by decide +kernel
theorem dX1_sortCuts_2 : decode prog_3_method_9_code 2 = .ok (.iload_n 1, 1) := by decide +kernel
theorem dX1_sortCuts_3 : decode prog_3_method_9_code 3 = .ok (.aload_n 0, 1) := by decide +kernel
theorem dX1_sortCuts_4 : decode prog_3_method_9_code 4 = .ok (.getfield 89, 3) := by decide +kernel
theorem dX1_sortCuts_7 : decode prog_3_method_9_code 7 = .ok (.if_icmp .ge 147, 3) := by decide +kernel
theorem dX1_sortCuts_10 : decode prog_3_method_9_code 10 = .ok (.aload_n 0, 1) := by decide +kernel
theorem dX1_sortCuts_11 : decode prog_3_method_9_code 11 = .ok (.getfield 18, 3) := by decide +kernel
theorem dX1_sortCuts_14 : decode prog_3_method_9_code 14 = .ok (.iload_n 1, 1) := by decide +kernel
theorem dX1_sortCuts_15 : decode prog_3_method_9_code 15 = .ok (.laload, 1) := by decide +kernel
theorem dX1_sortCuts_16 : decode prog_3_method_9_code 16 = .ok (.lstore_n 2, 1) := by decide +kernel
theorem dX1_sortCuts_17 : decode prog_3_method_9_code 17 = .ok (.aload_n 0, 1) := by decide +kernel
theorem dX1_sortCuts_18 : decode prog_3_method_9_code 18 = .ok (.getfield 22, 3) := by decide +kernel
theorem dX1_sortCuts_21 : decode prog_3_method_9_code 21 = .ok (.iload_n 1, 1) := by decide +kernel
theorem dX1_sortCuts_22 : decode prog_3_method_9_code 22 = .ok (.laload, 1) := by decide +kernel
theorem dX1_sortCuts_23 : decode prog_3_method_9_code 23 = .ok (.lstore 4, 2) := by decide +kernel
theorem dX1_sortCuts_25 : decode prog_3_method_9_code 25 = .ok (.aload_n 0, 1) := by decide +kernel
theorem dX1_sortCuts_26 : decode prog_3_method_9_code 26 = .ok (.getfield 25, 3) := by decide +kernel
theorem dX1_sortCuts_29 : decode prog_3_method_9_code 29 = .ok (.iload_n 1, 1) := by decide +kernel
theorem dX1_sortCuts_30 : decode prog_3_method_9_code 30 = .ok (.iaload, 1) := by decide +kernel
theorem dX1_sortCuts_31 : decode prog_3_method_9_code 31 = .ok (.istore 6, 2) := by decide +kernel
theorem dX1_sortCuts_33 : decode prog_3_method_9_code 33 = .ok (.iload_n 1, 1) := by decide +kernel
theorem dX1_sortCuts_34 : decode prog_3_method_9_code 34 = .ok (.istore 7, 2) := by decide +kernel
theorem dX1_sortCuts_36 : decode prog_3_method_9_code 36 = .ok (.iload 7, 2) := by decide +kernel
theorem dX1_sortCuts_38 : decode prog_3_method_9_code 38 = .ok (.ifCond .le 84, 3) := by decide +kernel
theorem dX1_sortCuts_41 : decode prog_3_method_9_code 41 = .ok (.aload_n 0, 1) := by decide +kernel
theorem dX1_sortCuts_42 : decode prog_3_method_9_code 42 = .ok (.getfield 18, 3) := by decide +kernel
theorem dX1_sortCuts_45 : decode prog_3_method_9_code 45 = .ok (.iload 7, 2) := by decide +kernel
theorem dX1_sortCuts_47 : decode prog_3_method_9_code 47 = .ok (.iconst 1, 1) := by decide +kernel
theorem dX1_sortCuts_48 : decode prog_3_method_9_code 48 = .ok (.isub, 1) := by decide +kernel
theorem dX1_sortCuts_49 : decode prog_3_method_9_code 49 = .ok (.laload, 1) := by decide +kernel
theorem dX1_sortCuts_50 : decode prog_3_method_9_code 50 = .ok (.lload 4, 2) := by decide +kernel
theorem dX1_sortCuts_52 : decode prog_3_method_9_code 52 = .ok (.lload_n 2, 1) := by decide +kernel
theorem dX1_sortCuts_53 : decode prog_3_method_9_code 53 = .ok (.aload_n 0, 1) := by decide +kernel
theorem dX1_sortCuts_54 : decode prog_3_method_9_code 54 = .ok (.getfield 22, 3) := by decide +kernel
theorem dX1_sortCuts_57 : decode prog_3_method_9_code 57 = .ok (.iload 7, 2) := by decide +kernel
theorem dX1_sortCuts_59 : decode prog_3_method_9_code 59 = .ok (.iconst 1, 1) := by decide +kernel
theorem dX1_sortCuts_60 : decode prog_3_method_9_code 60 = .ok (.isub, 1) := by decide +kernel
theorem dX1_sortCuts_61 : decode prog_3_method_9_code 61 = .ok (.laload, 1) := by decide +kernel
theorem dX1_sortCuts_62 : decode prog_3_method_9_code 62 = .ok (.invokestatic 125, 3) := by decide +kernel
theorem dX1_sortCuts_65 : decode prog_3_method_9_code 65 = .ok (.ifCond .le 57, 3) := by decide +kernel
theorem dX1_sortCuts_68 : decode prog_3_method_9_code 68 = .ok (.aload_n 0, 1) := by decide +kernel
theorem dX1_sortCuts_69 : decode prog_3_method_9_code 69 = .ok (.getfield 18, 3) := by decide +kernel
theorem dX1_sortCuts_72 : decode prog_3_method_9_code 72 = .ok (.iload 7, 2) := by decide +kernel
theorem dX1_sortCuts_74 : decode prog_3_method_9_code 74 = .ok (.aload_n 0, 1) := by decide +kernel
theorem dX1_sortCuts_75 : decode prog_3_method_9_code 75 = .ok (.getfield 18, 3) := by decide +kernel
