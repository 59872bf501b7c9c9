theorem dX8_replace_24 : decode prog_10_method_5_code 24 = .ok (.isub, 1) := by decide +kernel
theorem dX8_replace_25 : decode prog_10_method_5_code 25 = .ok (.putfield 29, 3) := by decide +kernel
theorem dX8_replace_28 : decode prog_10_method_5_code 28 = .ok (.aload_n 0, 1) := by decide +kernel
theorem dX8_replace_29 : decode prog_10_method_5_code 29 = .ok (.getfield 17, 3) := by decide +kernel
theorem dX8_replace_32 : decode prog_10_method_5_code 32 = .ok (.iload_n 1, 1) := by decide +kernel
theorem dX8_replace_33 : decode prog_10_method_5_code 33 = .ok (.aload_n 2, 1) := by decide +kernel
theorem dX8_replace_34 : decode prog_10_method_5_code 34 = .ok (.aastore, 1) := by decide +kernel
theorem dX8_replace_35 : decode prog_10_method_5_code 35 = .ok (.aload_n 2, 1) := by decide +kernel
theorem dX8_replace_36 : decode prog_10_method_5_code 36 = .ok (.dup, 1) := by decide +kernel
theorem dX8_replace_37 : decode prog_10_method_5_code 37 = .ok (.getfield 29, 3) := by decide +kernel
theorem dX8_replace_40 : decode prog_10_method_5_code 40 = .ok (.iconst 1, 1) := by decide +kernel
theorem dX8_replace_41 : decode prog_10_method_5_code 41 = .ok (.iadd, 1) := by decide +kernel
theorem dX8_replace_42 : decode prog_10_method_5_code 42 = .ok (.putfield 29, 3) := by decide +kernel
theorem dX8_replace_45 : decode prog_10_method_5_code 45 = .ok (.return_, 1) := by decide +kernel
theorem dX8_removeAt_0 : decode prog_10_method_6_code 0 = .ok (.iload_n 1, 1) := by decide +kernel
theorem dX8_removeAt_1 : decode prog_10_method_6_code 1 = .ok (.ifCond .lt 11, 3) := by decide +kernel
theorem dX8_removeAt_4 : decode prog_10_method_6_code 4 = .ok (.iload_n 1, 1) := by decide +kernel
theorem dX8_removeAt_5 : decode prog_10_method_6_code 5 = .ok (.aload_n 0, 1) := by decide +kernel
theorem dX8_removeAt_6 : decode prog_10_method_6_code 6 = .ok (.getfield 21, 3) := by decide +kernel
theorem dX8_removeAt_9 : decode prog_10_method_6_code 9 = .ok (.if_icmp .lt 4, 3) := by decide +kernel
theorem dX8_removeAt_12 : decode prog_10_method_6_code 12 = .ok (.return_, 1) := by decide +kernel
theorem dX8_removeAt_13 : decode prog_10_method_6_code 13 = .ok (.aload_n 0, 1) := by decide +kernel
theorem dX8_removeAt_14 : decode prog_10_method_6_code 14 = .ok (.getfield 17, 3) := by decide +kernel
theorem dX8_removeAt_17 : decode prog_10_method_6_code 17 = .ok (.iload_n 1, 1) := by decide +kernel
theorem dX8_removeAt_18 : decode prog_10_method_6_code 18 = .ok (.aaload, 1) := by decide +kernel
theorem dX8_removeAt_19 : decode prog_10_method_6_code 19 = .ok (.dup, 1) := by decide +kernel
theorem dX8_removeAt_20 : decode prog_10_method_6_code 20 = .ok (.getfield 29, 3) := by decide +kernel
theorem dX8_removeAt_23 : decode prog_10_method_6_code 23 = .ok (.iconst 1, 1) := by decide +kernel
theorem dX8_removeAt_24 : decode prog_10_method_6_code 24 = .ok (.isub, 1) := by decide +kernel
theorem dX8_removeAt_25 : decode prog_10_method_6_code 25 = .ok (.putfield 29, 3) := by decide +kernel
theorem dX8_removeAt_28 : decode prog_10_method_6_code 28 = .ok (.aload_n 0, 1) := by decide +kernel
theorem dX8_removeAt_29 : decode prog_10_method_6_code 29 = .ok (.dup, 1) := by decide +kernel
theorem dX8_removeAt_30 : decode prog_10_method_6_code 30 = .ok (.getfield 21, 3) := by decide +kernel
theorem dX8_removeAt_33 : decode prog_10_method_6_code 33 = .ok (.iconst 1, 1) := by decide +kernel
theorem dX8_removeAt_34 : decode prog_10_method_6_code 34 = .ok (.isub, 1) := by decide +kernel
theorem dX8_removeAt_35 : decode prog_10_method_6_code 35 = .ok (.putfield 21, 3) := by decide +kernel
theorem dX8_removeAt_38 : decode prog_10_method_6_code 38 = .ok (.iload_n 1, 1) := by decide +kernel
theorem dX8_removeAt_39 : decode prog_10_method_6_code 39 = .ok (.istore_n 2, 1) := by decide +kernel
theorem dX8_removeAt_40 : decode prog_10_method_6_code 40 = .ok (.iload_n 2, 1) := by decide +kernel
theorem dX8_removeAt_41 : decode prog_10_method_6_code 41 = .ok (.aload_n 0, 1) := by decide +kernel
theorem dX8_removeAt_42 : decode prog_10_method_6_code 42 = .ok (.getfield 21, 3) := by decide +kernel
theorem dX8_removeAt_45 : decode prog_10_method_6_code 45 = .ok (.if_icmp .ge 37, 3) := by decide +kernel
theorem dX8_removeAt_48 : decode prog_10_method_6_code 48 = .ok (.aload_n 0, 1) := by decide +kernel
theorem dX8_removeAt_49 : decode prog_10_method_6_code 49 = .ok (.getfield 9, 3) := by decide +kernel
theorem dX8_removeAt_52 : decode prog_10_method_6_code 52 = .ok (.iload_n 2, 1) := by decide +kernel
theorem dX8_removeAt_53 : decode prog_10_method_6_code 53 = .ok (.aload_n 0, 1) := by decide +kernel
theorem dX8_removeAt_54 : decode prog_10_method_6_code 54 = .ok (.getfield 9, 3) := by decide +kernel
theorem dX8_removeAt_57 : decode prog_10_method_6_code 57 = .ok (.iload_n 2, 1) := by decide +kernel
theorem dX8_removeAt_58 : decode prog_10_method_6_code 58 = .ok (.iconst 1, 1) := by decide +kernel
theorem dX8_removeAt_59 : decode prog_10_method_6_code 59 = .ok (.iadd, 1) := by decide +kernel
theorem dX8_removeAt_60 : decode prog_10_method_6_code 60 = .ok (.iaload, 1) := by decide +kernel
theorem dX8_removeAt_61 : decode prog_10_method_6_code 61 = .ok (.iastore, 1) := by decide +kernel
theorem dX8_removeAt_62 : decode prog_10_method_6_code 62 = .ok (.aload_n 0, 1) := by decide +kernel
theorem dX8_removeAt_63 : decode prog_10_method_6_code 63 = .ok (.getfield 17, 3) := by decide +kernel
theorem dX8_removeAt_66 : decode prog_10_method_6_code 66 = .ok (.iload_n 2, 1) := by decide +kernel
theorem dX8_removeAt_67 : decode prog_10_method_6_code 67 = .ok (.aload_n 0, 1) := by decide +kernel
theorem dX8_removeAt_68 : decode prog_10_method_6_code 68 = .ok (.getfield 17, 3) := by decide +kernel
theorem dX8_removeAt_71 : decode prog_10_method_6_code 71 = .ok (.iload_n 2, 1) := by decide +kernel
theorem dX8_removeAt_72 : decode prog_10_method_6_code 72 = .ok (.iconst 1, 1) := by decide +kernel
theorem dX8_removeAt_73 : decode prog_10_method_6_code 73 = .ok (.iadd, 1) := by decide +kernel
theorem dX8_removeAt_74 : decode prog_10_method_6_code 74 = .ok (.aaload, 1) := by decide +kernel
theorem dX8_removeAt_75 : decode prog_10_method_6_code 75 = .ok (.aastore, 1) := by decide +kernel
theorem dX8_removeAt_76 : decode prog_10_method_6_code 76 = .ok (.iinc 2 1, 3) := by decide +kernel
theorem dX8_removeAt_79 : decode prog_10_method_6_code 79 = .ok (.goto (-39), 3) := by decide +kernel
theorem dX8_removeAt_82 : decode prog_10_method_6_code 82 = .ok (.return_, 1) := by decide +kernel
theorem dX8_copyFrom_0 : decode prog_10_method_7_code 0 = .ok (.iconst 0, 1) := by decide +kernel
theorem dX8_copyFrom_1 : decode prog_10_method_7_code 1 = .ok (.istore_n 2, 1) := by decide +kernel
theorem dX8_copyFrom_2 : decode prog_10_method_7_code 2 = .ok (.iload_n 2, 1) := by decide +kernel
theorem dX8_copyFrom_3 : decode prog_10_method_7_code 3 = .ok (.aload_n 0, 1) := by decide +kernel
theorem dX8_copyFrom_4 : decode prog_10_method_7_code 4 = .ok (.getfield 21, 3) := by decide +kernel
theorem dX8_copyFrom_7 : decode prog_10_method_7_code 7 = .ok (.if_icmp .ge 24, 3) := by decide +kernel
theorem dX8_copyFrom_10 : decode prog_10_method_7_code 10 = .ok (.aload_n 0, 1) := by decide +kernel
theorem dX8_copyFrom_11 : decode prog_10_method_7_code 11 = .ok (.getfield 17, 3) := by decide +kernel
theorem dX8_copyFrom_14 : decode prog_10_method_7_code 14 = .ok (.iload_n 2, 1) := by decide +kernel
theorem dX8_copyFrom_15 : decode prog_10_method_7_code 15 = .ok (.aaload, 1) := by decide +kernel
theorem dX8_copyFrom_16 : decode prog_10_method_7_code 16 = .ok (.dup, 1) := by decide +kernel
theorem dX8_copyFrom_17 : decode prog_10_method_7_code 17 = .ok (.getfield 29, 3) := by decide +kernel
theorem dX8_copyFrom_20 : decode prog_10_method_7_code 20 = .ok (.iconst 1, 1) := by decide +kernel
theorem dX8_copyFrom_21 : decode prog_10_method_7_code 21 = .ok (.isub, 1) := by decide +kernel
theorem dX8_copyFrom_22 : decode prog_10_method_7_code 22 = .ok (.putfield 29, 3) := by decide +kernel
theorem dX8_copyFrom_25 : decode prog_10_method_7_code 25 = .ok (.iinc 2 1, 3) := by decide +kernel
theorem dX8_copyFrom_28 : decode prog_10_method_7_code 28 = .ok (.goto (-26), 3) := by decide +kernel
theorem dX8_copyFrom_31 : decode prog_10_method_7_code 31 = .ok (.aload_n 0, 1) := by decide +kernel
theorem dX8_copyFrom_32 : decode prog_10_method_7_code 32 = .ok (.aload_n 1, 1) := by decide +kernel
theorem dX8_copyFrom_33 : decode prog_10_method_7_code 33 = .ok (.getfield 21, 3) := by decide +kernel
theorem dX8_copyFrom_36 : decode prog_10_method_7_code 36 = .ok (.putfield 21, 3) := by decide +kernel
theorem dX8_copyFrom_39 : decode prog_10_method_7_code 39 = .ok (.iconst 0, 1) := by decide +kernel
theorem dX8_copyFrom_40 : decode prog_10_method_7_code 40 = .ok (.istore_n 2, 1) := by decide +kernel
theorem dX8_copyFrom_41 : decode prog_10_method_7_code 41 = .ok (.iload_n 2, 1) := by decide +kernel
theorem dX8_copyFrom_42 : decode prog_10_method_7_code 42 = .ok (.aload_n 0, 1) := by decide +kernel
theorem dX8_copyFrom_43 : decode prog_10_method_7_code 43 = .ok (.getfield 21, 3) := by decide +kernel
theorem dX8_copyFrom_46 : decode prog_10_method_7_code 46 = .ok (.if_icmp .ge 48, 3) := by decide +kernel
theorem dX8_copyFrom_49 : decode prog_10_method_7_code 49 = .ok (.aload_n 0, 1) := by decide +kernel
theorem dX8_copyFrom_50 : decode prog_10_method_7_code 50 = .ok (.getfield 9, 3) := by decide +kernel
theorem dX8_copyFrom_53 : decode prog_10_method_7_code 53 = .ok (.iload_n 2, 1) := by decide +kernel
theorem dX8_copyFrom_54 : decode prog_10_method_7_code 54 = .ok (.aload_n 1, 1) := by decide +kernel
theorem dX8_copyFrom_55 : decode prog_10_method_7_code 55 = .ok (.getfield 9, 3) := by decide +kernel
theorem dX8_copyFrom_58 : decode prog_10_method_7_code 58 = .ok (.iload_n 2, 1) := by decide +kernel
theorem dX8_copyFrom_59 : decode prog_10_method_7_code 59 = .ok (.iaload, 1) := by decide +kernel
theorem dX8_copyFrom_60 : decode prog_10_method_7_code 60 = .ok (.iastore, 1) := by decide +kernel
theorem dX8_copyFrom_61 : decode prog_10_method_7_code 61 = .ok (.aload_n 0, 1) := by decide +kernel
theorem dX8_copyFrom_62 : decode prog_10_method_7_code 62 = .ok (.getfield 17, 3) := by decide +kernel
theorem dX8_copyFrom_65 : decode prog_10_method_7_code 65 = .ok (.iload_n 2, 1) := by decide +kernel
theorem dX8_copyFrom_66 : decode prog_10_method_7_code 66 = .ok (.aload_n 1, 1) := by decide +kernel
theorem dX8_copyFrom_67 : decode prog_10_method_7_code 67 = .ok (.getfield 17, 3) := by decide +kernel
theorem dX8_copyFrom_70 : decode prog_10_method_7_code 70 = .ok (.iload_n 2, 1) := by decide +kernel
theorem dX8_copyFrom_71 : decode prog_10_method_7_code 71 = .ok (.aaload, 1) := by decide +kernel
theorem dX8_copyFrom_72 : decode prog_10_method_7_code 72 = .ok (.aastore, 1) := by decide +kernel
theorem dX8_copyFrom_73 : decode prog_10_method_7_code 73 = .ok (.aload_n 0, 1) := by decide +kernel
theorem dX8_copyFrom_74 : decode prog_10_method_7_code 74 = .ok (.getfield 17, 3) := by decide +kernel
theorem dX8_copyFrom_77 : decode prog_10_method_7_code 77 = .ok (.iload_n 2, 1) := by decide +kernel
theorem dX8_copyFrom_78 : decode prog_10_method_7_code 78 = .ok (.aaload, 1) := by decide +kernel
theorem dX8_copyFrom_79 : decode prog_10_method_7_code 79 = .ok (.dup, 1) := by decide +kernel
theorem dX8_copyFrom_80 : decode prog_10_method_7_code 80 = .ok (.getfield 29, 3) := by decide +kernel
theorem dX8_copyFrom_83 : decode prog_10_method_7_code 83 = .ok (.iconst 1, 1) := by decide +kernel
theorem dX8_copyFrom_84 : decode prog_10_method_7_code 84 = .ok (.iadd, 1) := by decide +kernel
theorem dX8_copyFrom_85 : decode prog_10_method_7_code 85 = .ok (.putfield 29, 3) := by decide +kernel
theorem dX8_copyFrom_88 : decode prog_10_method_7_code 88 = .ok (.iinc 2 1, 3) := by decide +kernel
theorem dX8_copyFrom_91 : decode prog_10_method_7_code 91 = .ok (.goto (-50), 3) := by decide +kernel
theorem dX8_copyFrom_94 : decode prog_10_method_7_code 94 = .ok (.return_, 1) := by decide +kernel
theorem dX8_countBadRows_0 : decode prog_10_method_8_code 0 = .ok (.iconst 0, 1) := by decide +kernel
theorem dX8_countBadRows_1 : decode prog_10_method_8_code 1 = .ok (.istore_n 1, 1) := by decide +kernel
theorem dX8_countBadRows_2 : decode prog_10_method_8_code 2 = .ok (.iconst 0, 1) := by decide +kernel
theorem dX8_countBadRows_3 : decode prog_10_method_8_code 3 = .ok (.istore_n 2, 1) := by decide +kernel
theorem dX8_countBadRows_4 : decode prog_10_method_8_code 4 = .ok (.iload_n 2, 1) := by decide +kernel
theorem dX8_countBadRows_5 : decode prog_10_method_8_code 5 = .ok (.aload_n 0, 1) := by decide +kernel
theorem dX8_countBadRows_6 : decode prog_10_method_8_code 6 = .ok (.getfield 21, 3) := by decide +kernel
theorem dX8_countBadRows_9 : decode prog_10_method_8_code 9 = .ok (.if_icmp .ge 124, 3) := by decide +kernel
theorem dX8_countBadRows_12 : decode prog_10_method_8_code 12 = .ok (.iload_n 2, 1) := by decide +kernel
theorem dX8_countBadRows_13 : decode prog_10_method_8_code 13 = .ok (.ifCond .eq 20, 3) := by decide +kernel
theorem dX8_countBadRows_16 : decode prog_10_method_8_code 16 = .ok (.aload_n 0, 1) := by decide +kernel
theorem dX8_countBadRows_17 : decode prog_10_method_8_code 17 = .ok (.getfield 9, 3) := by decide +kernel
theorem dX8_countBadRows_20 : decode prog_10_method_8_code 20 = .ok (.iload_n 2, 1) := by decide +kernel
theorem dX8_countBadRows_21 : decode prog_10_method_8_code 21 = .ok (.iconst 1, 1) := by decide +kernel
theorem dX8_countBadRows_22 : decode prog_10_method_8_code 22 = .ok (.isub, 1) := by decide +kernel
theorem dX8_countBadRows_23 : decode prog_10_method_8_code 23 = .ok (.iaload, 1) := by decide +kernel
theorem dX8_countBadRows_24 : decode prog_10_method_8_code 24 = .ok (.aload_n 0, 1) := by decide +kernel
theorem dX8_countBadRows_25 : decode prog_10_method_8_code 25 = .ok (.getfield 9, 3) := by decide +kernel
theorem dX8_countBadRows_28 : decode prog_10_method_8_code 28 = .ok (.iload_n 2, 1) := by decide +kernel
theorem dX8_countBadRows_29 : decode prog_10_method_8_code 29 = .ok (.iaload, 1) := by decide +kernel
theorem dX8_countBadRows_30 : decode prog_10_method_8_code 30 = .ok (.if_icmp .ge 7, 3) := by decide +kernel
theorem dX8_countBadRows_33 : decode prog_10_method_8_code 33 = .ok (.iconst 1, 1) := by decide +kernel
theorem dX8_countBadRows_34 : decode prog_10_method_8_code 34 = .ok (.goto 4, 3) := by decide +kernel
theorem dX8_countBadRows_37 : decode prog_10_method_8_code 37 = .ok (.iconst 0, 1) := by decide +kernel
theorem dX8_countBadRows_38 : decode prog_10_method_8_code 38 = .ok (.istore_n 3, 1) := by decide +kernel
theorem dX8_countBadRows_39 : decode prog_10_method_8_code 39 = .ok (.aload_n 0, 1) := by decide +kernel
theorem dX8_countBadRows_40 : decode prog_10_method_8_code 40 = .ok (.getfield 9, 3) := by decide +kernel
theorem dX8_countBadRows_43 : decode prog_10_method_8_code 43 = .ok (.iload_n 2, 1) := by decide +kernel
theorem dX8_countBadRows_44 : decode prog_10_method_8_code 44 = .ok (.iaload, 1) := by decide +kernel
theorem dX8_countBadRows_45 : decode prog_10_method_8_code 45 = .ok (.iconst 1, 1) := by decide +kernel
theorem dX8_countBadRows_46 : decode prog_10_method_8_code 46 = .ok (.if_icmp .lt 19, 3) := by decide +kernel
theorem dX8_countBadRows_49 : decode prog_10_method_8_code 49 = .ok (.aload_n 0, 1) := by decide +kernel
theorem dX8_countBadRows_50 : decode prog_10_method_8_code 50 = .ok (.getfield 9, 3) := by decide +kernel
theorem dX8_countBadRows_53 : decode prog_10_method_8_code 53 = .ok (.iload_n 2, 1) := by decide +kernel
theorem dX8_countBadRows_54 : decode prog_10_method_8_code 54 = .ok (.iaload, 1) := by decide +kernel
theorem dX8_countBadRows_55 : decode prog_10_method_8_code 55 = .ok (.sipush 9999, 3) := by decide +kernel
theorem dX8_countBadRows_58 : decode prog_10_method_8_code 58 = .ok (.if_icmp .gt 7, 3) := by decide +kernel
theorem dX8_countBadRows_61 : decode prog_10_method_8_code 61 = .ok (.iconst 1, 1) := by decide +kernel
theorem dX8_countBadRows_62 : decode prog_10_method_8_code 62 = .ok (.goto 4, 3) := by decide +kernel
theorem dX8_countBadRows_65 : decode prog_10_method_8_code 65 = .ok (.iconst 0, 1) := by decide +kernel
theorem dX8_countBadRows_66 : decode prog_10_method_8_code 66 = .ok (.istore 4, 2) := by decide +kernel
theorem dX8_countBadRows_68 : decode prog_10_method_8_code 68 = .ok (.aload_n 0, 1) := by decide +kernel
theorem dX8_countBadRows_69 : decode prog_10_method_8_code 69 = .ok (.getfield 17, 3) := by decide +kernel
theorem dX8_countBadRows_72 : decode prog_10_method_8_code 72 = .ok (.iload_n 2, 1) := by decide +kernel
theorem dX8_countBadRows_73 : decode prog_10_method_8_code 73 = .ok (.aaload, 1) := by decide +kernel
theorem dX8_countBadRows_74 : decode prog_10_method_8_code 74 = .ok (.ifnull 33, 3) := by decide +kernel
theorem dX8_countBadRows_77 : decode prog_10_method_8_code 77 = .ok (.aload_n 0, 1) := by decide +kernel
theorem dX8_countBadRows_78 : decode prog_10_method_8_code 78 = .ok (.getfield 17, 3) := by decide +kernel
theorem dX8_countBadRows_81 : decode prog_10_method_8_code 81 = .ok (.iload_n 2, 1) := by decide +kernel
theorem dX8_countBadRows_82 : decode prog_10_method_8_code 82 = .ok (.aaload, 1) := by decide +kernel
theorem dX8_countBadRows_83 : decode prog_10_method_8_code 83 = .ok (.getfield 32, 3) := by decide +kernel
theorem dX8_countBadRows_86 : decode prog_10_method_8_code 86 = .ok (.iconst 1, 1) := by decide +kernel
theorem dX8_countBadRows_87 : decode prog_10_method_8_code 87 = .ok (.if_icmp .lt 20, 3) := by decide +kernel
theorem dX8_countBadRows_90 : decode prog_10_method_8_code 90 = .ok (.aload_n 0, 1) := by decide +kernel
theorem dX8_countBadRows_91 : decode prog_10_method_8_code 91 = .ok (.getfield 17, 3) := by decide +kernel
theorem dX8_countBadRows_94 : decode prog_10_method_8_code 94 = .ok (.iload_n 2, 1) := by decide +kernel
theorem dX8_countBadRows_95 : decode prog_10_method_8_code 95 = .ok (.aaload, 1) := by decide +kernel
theorem dX8_countBadRows_96 : decode prog_10_method_8_code 96 = .ok (.getfield 29, 3) := by decide +kernel
theorem dX8_countBadRows_99 : decode prog_10_method_8_code 99 = .ok (.iconst 1, 1) := by decide +kernel
theorem dX8_countBadRows_100 : decode prog_10_method_8_code 100 = .ok (.if_icmp .lt 7, 3) := by decide +kernel
theorem dX8_countBadRows_103 : decode prog_10_method_8_code 103 = .ok (.iconst 1, 1) := by decide +kernel
theorem dX8_countBadRows_104 : decode prog_10_method_8_code 104 = .ok (.goto 4, 3) := by decide +kernel
theorem dX8_countBadRows_107 : decode prog_10_method_8_code 107 = .ok (.iconst 0, 1) := by decide +kernel
theorem dX8_countBadRows_108 : decode prog_10_method_8_code 108 = .ok (.istore 5, 2) := by decide +kernel
theorem dX8_countBadRows_110 : decode prog_10_method_8_code 110 = .ok (.iload_n 3, 1) := by decide +kernel
theorem dX8_countBadRows_111 : decode prog_10_method_8_code 111 = .ok (.ifCond .eq 13, 3) := by decide +kernel
theorem dX8_countBadRows_114 : decode prog_10_method_8_code 114 = .ok (.iload 4, 2) := by decide +kernel
theorem dX8_countBadRows_116 : decode prog_10_method_8_code 116 = .ok (.ifCond .eq 8, 3) := by decide +kernel
theorem dX8_countBadRows_119 : decode prog_10_method_8_code 119 = .ok (.iload 5, 2) := by decide +kernel
theorem dX8_countBadRows_121 : decode prog_10_method_8_code 121 = .ok (.ifCond .ne 6, 3) := by decide +kernel
theorem dX8_countBadRows_124 : decode prog_10_method_8_code 124 = .ok (.iinc 1 1, 3) := by decide +kernel
theorem dX8_countBadRows_127 : decode prog_10_method_8_code 127 = .ok (.iinc 2 1, 3) := by decide +kernel
theorem dX8_countBadRows_130 : decode prog_10_method_8_code 130 = .ok (.goto (-126), 3) := by decide +kernel
theorem dX8_countBadRows_133 : decode prog_10_method_8_code 133 = .ok (.iload_n 1, 1) := by decide +kernel
theorem dX8_countBadRows_134 : decode prog_10_method_8_code 134 = .ok (.ireturn, 1) := by decide +kernel
theorem dX9_init_0 : decode prog_11_method_1_code 0 = .ok (.aload_n 0, 1) := by decide +kernel
theorem dX9_init_1 : decode prog_11_method_1_code 1 = .ok (.invokespecial 3, 3) := by decide +kernel
theorem dX9_init_4 : decode prog_11_method_1_code 4 = .ok (.aload_n 0, 1) := by decide +kernel
theorem dX9_init_5 : decode prog_11_method_1_code 5 = .ok (.sipush 4000, 3) := by decide +kernel
theorem dX9_init_8 : decode prog_11_method_1_code 8 = .ok (.newarray .byte, 2) := by decide +kernel
theorem dX9_init_10 : decode prog_11_method_1_code 10 = .ok (.putfield 9, 3) := by decide +kernel
theorem dX9_init_13 : decode prog_11_method_1_code 13 = .ok (.aload_n 0, 1) := by decide +kernel
theorem dX9_init_14 : decode prog_11_method_1_code 14 = .ok (.iconst 0, 1) := by decide +kernel
theorem dX9_init_15 : decode prog_11_method_1_code 15 = .ok (.putfield 15, 3) := by decide +kernel
theorem dX9_init_18 : decode prog_11_method_1_code 18 = .ok (.return_, 1) := by decide +kernel
theorem dX9_append_0 : decode prog_11_method_2_code 0 = .ok (.bipush 56, 2) := by decide +kernel
theorem dX9_append_2 : decode prog_11_method_2_code 2 = .ok (.istore_n 3, 1) := by decide +kernel
theorem dX9_append_3 : decode prog_11_method_2_code 3 = .ok (.iload_n 3, 1) := by decide +kernel
theorem dX9_append_4 : decode prog_11_method_2_code 4 = .ok (.ifCond .lt 43, 3) := by decide +kernel
theorem dX9_append_7 : decode prog_11_method_2_code 7 = .ok (.aload_n 0, 1) := by decide +kernel
theorem dX9_append_8 : decode prog_11_method_2_code 8 = .ok (.getfield 15, 3) := by decide +kernel
theorem dX9_append_11 : decode prog_11_method_2_code 11 = .ok (.sipush 4000, 3) := by decide +kernel
theorem dX9_append_14 : decode prog_11_method_2_code 14 = .ok (.if_icmp .ge 33, 3) := by decide +kernel
theorem dX9_append_17 : decode prog_11_method_2_code 17 = .ok (.aload_n 0, 1) := by decide +kernel
theorem dX9_append_18 : decode prog_11_method_2_code 18 = .ok (.getfield 9, 3) := by decide +kernel
theorem dX9_append_21 : decode prog_11_method_2_code 21 = .ok (.aload_n 0, 1) := by decide +kernel
theorem dX9_append_22 : decode prog_11_method_2_code 22 = .ok (.getfield 15, 3) := by decide +kernel
theorem dX9_append_25 : decode prog_11_method_2_code 25 = .ok (.lload_n 1, 1) := by decide +kernel
theorem dX9_append_26 : decode prog_11_method_2_code 26 = .ok (.iload_n 3, 1) := by decide +kernel
theorem dX9_append_27 : decode prog_11_method_2_code 27 = .ok (.lushr, 1) := by decide +kernel
theorem dX9_append_28 : decode prog_11_method_2_code 28 = .ok (.l2i, 1) := by decide +kernel
theorem dX9_append_29 : decode prog_11_method_2_code 29 = .ok (.i2b, 1) := by decide +kernel
theorem dX9_append_30 : decode prog_11_method_2_code 30 = .ok (.bastore, 1) := by decide +kernel
theorem dX9_append_31 : decode prog_11_method_2_code 31 = .ok (.aload_n 0, 1) := by decide +kernel
theorem dX9_append_32 : decode prog_11_method_2_code 32 = .ok (.dup, 1) := by decide +kernel
theorem dX9_append_33 : decode prog_11_method_2_code 33 = .ok (.getfield 15, 3) := by decide +kernel
theorem dX9_append_36 : decode prog_11_method_2_code 36 = .ok (.iconst 1, 1) := by decide +kernel
theorem dX9_append_37 : decode prog_11_method_2_code 37 = .ok (.iadd, 1) := by decide +kernel
theorem dX9_append_38 : decode prog_11_method_2_code 38 = .ok (.putfield 15, 3) := by decide +kernel
theorem dX9_append_41 : decode prog_11_method_2_code 41 = .ok (.iinc 3 (-8), 3) := by decide +kernel
theorem dX9_append_44 : decode prog_11_method_2_code 44 = .ok (.goto (-41), 3) := by decide +kernel
theorem dX9_append_47 : decode prog_11_method_2_code 47 = .ok (.return_, 1) := by decide +kernel
theorem dX9_clear_0 : decode prog_11_method_3_code 0 = .ok (.aload_n 0, 1) := by decide +kernel
theorem dX9_clear_1 : decode prog_11_method_3_code 1 = .ok (.iconst 0, 1) := by decide +kernel
theorem dX9_clear_2 : decode prog_11_method_3_code 2 = .ok (.putfield 15, 3) := by decide +kernel
theorem dX9_clear_5 : decode prog_11_method_3_code 5 = .ok (.return_, 1) := by decide +kernel
theorem dX9_rewind_0 : decode prog_11_method_4_code 0 = .ok (.aload_n 0, 1) := by decide +kernel
theorem dX9_rewind_1 : decode prog_11_method_4_code 1 = .ok (.iconst 0, 1) := by decide +kernel
theorem dX9_rewind_2 : decode prog_11_method_4_code 2 = .ok (.putfield 19, 3) := by decide +kernel
theorem dX9_rewind_5 : decode prog_11_method_4_code 5 = .ok (.aload_n 0, 1) := by decide +kernel
theorem dX9_rewind_6 : decode prog_11_method_4_code 6 = .ok (.invokevirtual 22, 3) := by decide +kernel
theorem dX9_rewind_9 : decode prog_11_method_4_code 9 = .ok (.return_, 1) := by decide +kernel
theorem dX9_advance_0 : decode prog_11_method_5_code 0 = .ok (.aload_n 0, 1) := by decide +kernel
theorem dX9_advance_1 : decode prog_11_method_5_code 1 = .ok (.getfield 19, 3) := by decide +kernel
theorem dX9_advance_4 : decode prog_11_method_5_code 4 = .ok (.istore_n 1, 1) := by decide +kernel
theorem dX9_advance_5 : decode prog_11_method_5_code 5 = .ok (.iload_n 1, 1) := by decide +kernel
theorem dX9_advance_6 : decode prog_11_method_5_code 6 = .ok (.aload_n 0, 1) := by decide +kernel
theorem dX9_advance_7 : decode prog_11_method_5_code 7 = .ok (.getfield 15, 3) := by decide +kernel
theorem dX9_advance_10 : decode prog_11_method_5_code 10 = .ok (.if_icmp .ge 31, 3) := by decide +kernel
theorem dX9_advance_13 : decode prog_11_method_5_code 13 = .ok (.aload_n 0, 1) := by decide +kernel
theorem dX9_advance_14 : decode prog_11_method_5_code 14 = .ok (.getfield 9, 3) := by decide +kernel
theorem dX9_advance_17 : decode prog_11_method_5_code 17 = .ok (.iload_n 1, 1) := by decide +kernel
theorem dX9_advance_18 : decode prog_11_method_5_code 18 = .ok (.baload, 1) := by decide +kernel
theorem dX9_advance_19 : decode prog_11_method_5_code 19 = .ok (.bipush 32, 2) := by decide +kernel
theorem dX9_advance_21 : decode prog_11_method_5_code 21 = .ok (.if_icmp .eq 14, 3) := by decide +kernel
theorem dX9_advance_24 : decode prog_11_method_5_code 24 = .ok (.aload_n 0, 1) := by decide +kernel
theorem dX9_advance_25 : decode prog_11_method_5_code 25 = .ok (.getfield 9, 3) := by decide +kernel
theorem dX9_advance_28 : decode prog_11_method_5_code 28 = .ok (.iload_n 1, 1) := by decide +kernel
theorem dX9_advance_29 : decode prog_11_method_5_code 29 = .ok (.baload, 1) := by decide +kernel
theorem dX9_advance_30 : decode prog_11_method_5_code 30 = .ok (.bipush 10, 2) := by decide +kernel
theorem dX9_advance_32 : decode prog_11_method_5_code 32 = .ok (.if_icmp .ne 9, 3) := by decide +kernel
theorem dX9_advance_35 : decode prog_11_method_5_code 35 = .ok (.iinc 1 1, 3) := by decide +kernel
theorem dX9_advance_38 : decode prog_11_method_5_code 38 = .ok (.goto (-33), 3) := by decide +kernel
theorem dX9_advance_41 : decode prog_11_method_5_code 41 = .ok (.aload_n 0, 1) := by decide +kernel
theorem dX9_advance_42 : decode prog_11_method_5_code 42 = .ok (.iload_n 1, 1) := by decide +kernel
theorem dX9_advance_43 : decode prog_11_method_5_code 43 = .ok (.putfield 25, 3) := by decide +kernel
theorem dX9_advance_46 : decode prog_11_method_5_code 46 = .ok (.aload_n 0, 1) := by decide +kernel
theorem dX9_advance_47 : decode prog_11_method_5_code 47 = .ok (.iload_n 1, 1) := by decide +kernel
theorem dX9_advance_48 : decode prog_11_method_5_code 48 = .ok (.putfield 19, 3) := by decide +kernel
theorem dX9_advance_51 : decode prog_11_method_5_code 51 = .ok (.iload_n 1, 1) := by decide +kernel
theorem dX9_advance_52 : decode prog_11_method_5_code 52 = .ok (.aload_n 0, 1) := by decide +kernel
theorem dX9_advance_53 : decode prog_11_method_5_code 53 = .ok (.getfield 15, 3) := by decide +kernel
theorem dX9_advance_56 : decode prog_11_method_5_code 56 = .ok (.if_icmp .lt 11, 3) := by decide +kernel
theorem dX9_advance_59 : decode prog_11_method_5_code 59 = .ok (.aload_n 0, 1) := by decide +kernel
theorem dX9_advance_60 : decode prog_11_method_5_code 60 = .ok (.iconst 0, 1) := by decide +kernel
theorem dX9_advance_61 : decode prog_11_method_5_code 61 = .ok (.putfield 28, 3) := by decide +kernel
theorem dX9_advance_64 : decode prog_11_method_5_code 64 = .ok (.goto 142, 3) := by decide +kernel
theorem dX9_advance_67 : decode prog_11_method_5_code 67 = .ok (.aload_n 0, 1) := by decide +kernel
theorem dX9_advance_68 : decode prog_11_method_5_code 68 = .ok (.getfield 9, 3) := by decide +kernel
theorem dX9_advance_71 : decode prog_11_method_5_code 71 = .ok (.iload_n 1, 1) := by decide +kernel
theorem dX9_advance_72 : decode prog_11_method_5_code 72 = .ok (.baload, 1) := by decide +kernel
theorem dX9_advance_73 : decode prog_11_method_5_code 73 = .ok (.bipush 65, 2) := by decide +kernel
theorem dX9_advance_75 : decode prog_11_method_5_code 75 = .ok (.if_icmp .lt 21, 3) := by decide +kernel
theorem dX9_advance_78 : decode prog_11_method_5_code 78 = .ok (.aload_n 0, 1) := by decide +kernel
theorem dX9_advance_79 : decode prog_11_method_5_code 79 = .ok (.getfield 9, 3) := by decide +kernel
theorem dX9_advance_82 : decode prog_11_method_5_code 82 = .ok (.iload_n 1, 1) := by decide +kernel
theorem dX9_advance_83 : decode prog_11_method_5_code 83 = .ok (.baload, 1) := by decide +kernel
theorem dX9_advance_84 : decode prog_11_method_5_code 84 = .ok (.bipush 90, 2) := by decide +kernel
theorem dX9_advance_86 : decode prog_11_method_5_code 86 = .ok (.if_icmp .gt 10, 3) := by decide +kernel
theorem dX9_advance_89 : decode prog_11_method_5_code 89 = .ok (.aload_n 0, 1) := by decide +kernel
theorem dX9_advance_90 : decode prog_11_method_5_code 90 = .ok (.invokevirtual 31, 3) := by decide +kernel
theorem dX9_advance_93 : decode prog_11_method_5_code 93 = .ok (.goto 113, 3) := by decide +kernel
theorem dX9_advance_96 : decode prog_11_method_5_code 96 = .ok (.aload_n 0, 1) := by decide +kernel
theorem dX9_advance_97 : decode prog_11_method_5_code 97 = .ok (.getfield 9, 3) := by decide +kernel
theorem dX9_advance_100 : decode prog_11_method_5_code 100 = .ok (.iload_n 1, 1) := by decide +kernel
theorem dX9_advance_101 : decode prog_11_method_5_code 101 = .ok (.baload, 1) := by decide +kernel
theorem dX9_advance_102 : decode prog_11_method_5_code 102 = .ok (.bipush 48, 2) := by decide +kernel
theorem dX9_advance_104 : decode prog_11_method_5_code 104 = .ok (.if_icmp .lt 14, 3) := by decide +kernel
theorem dX9_advance_107 : decode prog_11_method_5_code 107 = .ok (.aload_n 0, 1) := by decide +kernel
theorem dX9_advance_108 : decode prog_11_method_5_code 108 = .ok (.getfield 9, 3) := by decide +kernel
theorem dX9_advance_111 : decode prog_11_method_5_code 111 = .ok (.iload_n 1, 1) := by decide +kernel
theorem dX9_advance_112 : decode prog_11_method_5_code 112 = .ok (.baload, 1) := by decide +kernel
theorem dX9_advance_113 : decode prog_11_method_5_code 113 = .ok (.bipush 57, 2) := by decide +kernel
theorem dX9_advance_115 : decode prog_11_method_5_code 115 = .ok (.if_icmp .le 14, 3) := by decide +kernel
theorem dX9_advance_118 : decode prog_11_method_5_code 118 = .ok (.aload_n 0, 1) := by decide +kernel
theorem dX9_advance_119 : decode prog_11_method_5_code 119 = .ok (.getfield 9, 3) := by decide +kernel
theorem dX9_advance_122 : decode prog_11_method_5_code 122 = .ok (.iload_n 1, 1) := by decide +kernel
theorem dX9_advance_123 : decode prog_11_method_5_code 123 = .ok (.baload, 1) := by decide +kernel
theorem dX9_advance_124 : decode prog_11_method_5_code 124 = .ok (.bipush 45, 2) := by decide +kernel
theorem dX9_advance_126 : decode prog_11_method_5_code 126 = .ok (.if_icmp .ne 10, 3) := by decide +kernel
theorem dX9_advance_129 : decode prog_11_method_5_code 129 = .ok (.aload_n 0, 1) := by decide +kernel
theorem dX9_advance_130 : decode prog_11_method_5_code 130 = .ok (.invokevirtual 34, 3) := by decide +kernel
theorem dX9_advance_133 : decode prog_11_method_5_code 133 = .ok (.goto 73, 3) := by decide +kernel
theorem dX9_advance_136 : decode prog_11_method_5_code 136 = .ok (.aload_n 0, 1) := by decide +kernel
theorem dX9_advance_137 : decode prog_11_method_5_code 137 = .ok (.getfield 9, 3) := by decide +kernel
theorem dX9_advance_140 : decode prog_11_method_5_code 140 = .ok (.iload_n 1, 1) := by decide +kernel
theorem dX9_advance_141 : decode prog_11_method_5_code 141 = .ok (.baload, 1) := by decide +kernel
theorem dX9_advance_142 : decode prog_11_method_5_code 142 = .ok (.bipush 40, 2) := by decide +kernel
theorem dX9_advance_144 : decode prog_11_method_5_code 144 = .ok (.if_icmp .eq 36, 3) := by decide +kernel
theorem dX9_advance_147 : decode prog_11_method_5_code 147 = .ok (.aload_n 0, 1) := by decide +kernel
theorem dX9_advance_148 : decode prog_11_method_5_code 148 = .ok (.getfield 9, 3) := by decide +kernel
theorem dX9_advance_151 : decode prog_11_method_5_code 151 = .ok (.iload_n 1, 1) := by decide +kernel
theorem dX9_advance_152 : decode prog_11_method_5_code 152 = .ok (.baload, 1) := by decide +kernel
theorem dX9_advance_153 : decode prog_11_method_5_code 153 = .ok (.bipush 41, 2) := by decide +kernel
theorem dX9_advance_155 : decode prog_11_method_5_code 155 = .ok (.if_icmp .eq 25, 3) := by decide +kernel
theorem dX9_advance_158 : decode prog_11_method_5_code 158 = .ok (.aload_n 0, 1) := by decide +kernel
theorem dX9_advance_159 : decode prog_11_method_5_code 159 = .ok (.getfield 9, 3) := by decide +kernel
theorem dX9_advance_162 : decode prog_11_method_5_code 162 = .ok (.iload_n 1, 1) := by decide +kernel
theorem dX9_advance_163 : decode prog_11_method_5_code 163 = .ok (.baload, 1) := by decide +kernel
theorem dX9_advance_164 : decode prog_11_method_5_code 164 = .ok (.bipush 44, 2) := by decide +kernel
theorem dX9_advance_166 : decode prog_11_method_5_code 166 = .ok (.if_icmp .eq 14, 3) := by decide +kernel
theorem dX9_advance_169 : decode prog_11_method_5_code 169 = .ok (.aload_n 0, 1) := by decide +kernel
theorem dX9_advance_170 : decode prog_11_method_5_code 170 = .ok (.getfield 9, 3) := by decide +kernel
theorem dX9_advance_173 : decode prog_11_method_5_code 173 = .ok (.iload_n 1, 1) := by decide +kernel
theorem dX9_advance_174 : decode prog_11_method_5_code 174 = .ok (.baload, 1) := by decide +kernel
theorem dX9_advance_175 : decode prog_11_method_5_code 175 = .ok (.bipush 59, 2) := by decide +kernel
theorem dX9_advance_177 : decode prog_11_method_5_code 177 = .ok (.if_icmp .ne 7, 3) := by decide +kernel
theorem dX9_advance_180 : decode prog_11_method_5_code 180 = .ok (.iconst 1, 1) := by decide +kernel
theorem dX9_advance_181 : decode prog_11_method_5_code 181 = .ok (.goto 4, 3) := by decide +kernel
theorem dX9_advance_184 : decode prog_11_method_5_code 184 = .ok (.iconst 0, 1) := by decide +kernel
theorem dX9_advance_185 : decode prog_11_method_5_code 185 = .ok (.istore_n 2, 1) := by decide +kernel
theorem dX9_advance_186 : decode prog_11_method_5_code 186 = .ok (.aload_n 0, 1) := by decide +kernel
theorem dX9_advance_187 : decode prog_11_method_5_code 187 = .ok (.iload_n 2, 1) := by decide +kernel
theorem dX9_advance_188 : decode prog_11_method_5_code 188 = .ok (.ifCond .eq 7, 3) := by decide +kernel
theorem dX9_advance_191 : decode prog_11_method_5_code 191 = .ok (.iconst 3, 1) := by decide +kernel
theorem dX9_advance_192 : decode prog_11_method_5_code 192 = .ok (.goto 4, 3) := by decide +kernel
theorem dX9_advance_195 : decode prog_11_method_5_code 195 = .ok (.iconst 4, 1) := by decide +kernel
theorem dX9_advance_196 : decode prog_11_method_5_code 196 = .ok (.putfield 28, 3) := by decide +kernel
theorem dX9_advance_199 : decode prog_11_method_5_code 199 = .ok (.aload_n 0, 1) := by decide +kernel
theorem dX9_advance_200 : decode prog_11_method_5_code 200 = .ok (.iload_n 1, 1) := by decide +kernel
theorem dX9_advance_201 : decode prog_11_method_5_code 201 = .ok (.iconst 1, 1) := by decide +kernel
theorem dX9_advance_202 : decode prog_11_method_5_code 202 = .ok (.iadd, 1) := by decide +kernel
theorem dX9_advance_203 : decode prog_11_method_5_code 203 = .ok (.putfield 19, 3) := by decide +kernel
theorem dX9_advance_206 : decode prog_11_method_5_code 206 = .ok (.return_, 1) := by decide +kernel
theorem dX9_takeWord_0 : decode prog_11_method_6_code 0 = .ok (.aload_n 0, 1) := by decide +kernel
theorem dX9_takeWord_1 : decode prog_11_method_6_code 1 = .ok (.getfield 25, 3) := by decide +kernel
theorem dX9_takeWord_4 : decode prog_11_method_6_code 4 = .ok (.istore_n 1, 1) := by decide +kernel
theorem dX9_takeWord_5 : decode prog_11_method_6_code 5 = .ok (.iload_n 1, 1) := by decide +kernel
theorem dX9_takeWord_6 : decode prog_11_method_6_code 6 = .ok (.aload_n 0, 1) := by decide +kernel
theorem dX9_takeWord_7 : decode prog_11_method_6_code 7 = .ok (.getfield 15, 3) := by decide +kernel
theorem dX9_takeWord_10 : decode prog_11_method_6_code 10 = .ok (.if_icmp .ge 31, 3) := by decide +kernel
theorem dX9_takeWord_13 : decode prog_11_method_6_code 13 = .ok (.aload_n 0, 1) := by decide +kernel
theorem dX9_takeWord_14 : decode prog_11_method_6_code 14 = .ok (.getfield 9, 3) := by decide +kernel
theorem dX9_takeWord_17 : decode prog_11_method_6_code 17 = .ok (.iload_n 1, 1) := by decide +kernel
theorem dX9_takeWord_18 : decode prog_11_method_6_code 18 = .ok (.baload, 1) := by decide +kernel
theorem dX9_takeWord_19 : decode prog_11_method_6_code 19 = .ok (.bipush 65, 2) := by decide +kernel
theorem dX9_takeWord_21 : decode prog_11_method_6_code 21 = .ok (.if_icmp .lt 20, 3) := by decide +kernel
theorem dX9_takeWord_24 : decode prog_11_method_6_code 24 = .ok (.aload_n 0, 1) := by decide +kernel
theorem dX9_takeWord_25 : decode prog_11_method_6_code 25 = .ok (.getfield 9, 3) := by decide +kernel
theorem dX9_takeWord_28 : decode prog_11_method_6_code 28 = .ok (.iload_n 1, 1) := by decide +kernel
theorem dX9_takeWord_29 : decode prog_11_method_6_code 29 = .ok (.baload, 1) := by decide +kernel
theorem dX9_takeWord_30 : decode prog_11_method_6_code 30 = .ok (.bipush 90, 2) := by decide +kernel
theorem dX9_takeWord_32 : decode prog_11_method_6_code 32 = .ok (.if_icmp .gt 9, 3) := by decide +kernel
theorem dX9_takeWord_35 : decode prog_11_method_6_code 35 = .ok (.iinc 1 1, 3) := by decide +kernel
theorem dX9_takeWord_38 : decode prog_11_method_6_code 38 = .ok (.goto (-33), 3) := by decide +kernel
theorem dX9_takeWord_41 : decode prog_11_method_6_code 41 = .ok (.aload_n 0, 1) := by decide +kernel
theorem dX9_takeWord_42 : decode prog_11_method_6_code 42 = .ok (.iconst 1, 1) := by decide +kernel
theorem dX9_takeWord_43 : decode prog_11_method_6_code 43 = .ok (.putfield 28, 3) := by decide +kernel
theorem dX9_takeWord_46 : decode prog_11_method_6_code 46 = .ok (.aload_n 0, 1) := by decide +kernel
theorem dX9_takeWord_47 : decode prog_11_method_6_code 47 = .ok (.iload_n 1, 1) := by decide +kernel
theorem dX9_takeWord_48 : decode prog_11_method_6_code 48 = .ok (.putfield 19, 3) := by decide +kernel
theorem dX9_takeWord_51 : decode prog_11_method_6_code 51 = .ok (.return_, 1) := by decide +kernel
theorem dX9_takeNumber_0 : decode prog_11_method_7_code 0 = .ok (.aload_n 0, 1) := by decide +kernel
theorem dX9_takeNumber_1 : decode prog_11_method_7_code 1 = .ok (.getfield 9, 3) := by decide +kernel
theorem dX9_takeNumber_4 : decode prog_11_method_7_code 4 = .ok (.aload_n 0, 1) := by decide +kernel
theorem dX9_takeNumber_5 : decode prog_11_method_7_code 5 = .ok (.getfield 25, 3) := by decide +kernel
theorem dX9_takeNumber_8 : decode prog_11_method_7_code 8 = .ok (.baload, 1) := by decide +kernel
theorem dX9_takeNumber_9 : decode prog_11_method_7_code 9 = .ok (.bipush 45, 2) := by decide +kernel
theorem dX9_takeNumber_11 : decode prog_11_method_7_code 11 = .ok (.if_icmp .ne 7, 3) := by decide +kernel
theorem dX9_takeNumber_14 : decode prog_11_method_7_code 14 = .ok (.iconst 1, 1) := by decide +kernel
theorem dX9_takeNumber_15 : decode prog_11_method_7_code 15 = .ok (.goto 4, 3) := by decide +kernel
theorem dX9_takeNumber_18 : decode prog_11_method_7_code 18 = .ok (.iconst 0, 1) := by decide +kernel
theorem dX9_takeNumber_19 : decode prog_11_method_7_code 19 = .ok (.istore_n 1, 1) := by decide +kernel
theorem dX9_takeNumber_20 : decode prog_11_method_7_code 20 = .ok (.iload_n 1, 1) := by decide +kernel
theorem dX9_takeNumber_21 : decode prog_11_method_7_code 21 = .ok (.ifCond .eq 12, 3) := by decide +kernel
theorem dX9_takeNumber_24 : decode prog_11_method_7_code 24 = .ok (.aload_n 0, 1) := by decide +kernel
theorem dX9_takeNumber_25 : decode prog_11_method_7_code 25 = .ok (.getfield 25, 3) := by decide +kernel
theorem dX9_takeNumber_28 : decode prog_11_method_7_code 28 = .ok (.iconst 1, 1) := by decide +kernel
theorem dX9_takeNumber_29 : decode prog_11_method_7_code 29 = .ok (.iadd, 1) := by decide +kernel
theorem dX9_takeNumber_30 : decode prog_11_method_7_code 30 = .ok (.goto 7, 3) := by decide +kernel
theorem dX9_takeNumber_33 : decode prog_11_method_7_code 33 = .ok (.aload_n 0, 1) := by decide +kernel
theorem dX9_takeNumber_34 : decode prog_11_method_7_code 34 = .ok (.getfield 25, 3) := by decide +kernel
theorem dX9_takeNumber_37 : decode prog_11_method_7_code 37 = .ok (.istore_n 2, 1) := by decide +kernel
theorem dX9_takeNumber_38 : decode prog_11_method_7_code 38 = .ok (.lconst 0, 1) := by decide +kernel
theorem dX9_takeNumber_39 : decode prog_11_method_7_code 39 = .ok (.lstore_n 3, 1) := by decide +kernel
theorem dX9_takeNumber_40 : decode prog_11_method_7_code 40 = .ok (.iload_n 2, 1) := by decide +kernel
theorem dX9_takeNumber_41 : decode prog_11_method_7_code 41 = .ok (.istore 5, 2) := by decide +kernel
theorem dX9_takeNumber_43 : decode prog_11_method_7_code 43 = .ok (.iload 5, 2) := by decide +kernel
theorem dX9_takeNumber_45 : decode prog_11_method_7_code 45 = .ok (.aload_n 0, 1) := by decide +kernel
theorem dX9_takeNumber_46 : decode prog_11_method_7_code 46 = .ok (.getfield 15, 3) := by decide +kernel
theorem dX9_takeNumber_49 : decode prog_11_method_7_code 49 = .ok (.if_icmp .ge 60, 3) := by decide +kernel
theorem dX9_takeNumber_52 : decode prog_11_method_7_code 52 = .ok (.aload_n 0, 1) := by decide +kernel
theorem dX9_takeNumber_53 : decode prog_11_method_7_code 53 = .ok (.getfield 9, 3) := by decide +kernel
theorem dX9_takeNumber_56 : decode prog_11_method_7_code 56 = .ok (.iload 5, 2) := by decide +kernel
theorem dX9_takeNumber_58 : decode prog_11_method_7_code 58 = .ok (.baload, 1) := by decide +kernel
theorem dX9_takeNumber_59 : decode prog_11_method_7_code 59 = .ok (.bipush 48, 2) := by decide +kernel
theorem dX9_takeNumber_61 : decode prog_11_method_7_code 61 = .ok (.if_icmp .lt 48, 3) := by decide +kernel
theorem dX9_takeNumber_64 : decode prog_11_method_7_code 64 = .ok (.aload_n 0, 1) := by decide +kernel
theorem dX9_takeNumber_65 : decode prog_11_method_7_code 65 = .ok (.getfield 9, 3) := by decide +kernel
theorem dX9_takeNumber_68 : decode prog_11_method_7_code 68 = .ok (.iload 5, 2) := by decide +kernel
theorem dX9_takeNumber_70 : decode prog_11_method_7_code 70 = .ok (.baload, 1) := by decide +kernel
theorem dX9_takeNumber_71 : decode prog_11_method_7_code 71 = .ok (.bipush 57, 2) := by decide +kernel
theorem dX9_takeNumber_73 : decode prog_11_method_7_code 73 = .ok (.if_icmp .gt 36, 3) := by decide +kernel
theorem dX9_takeNumber_76 : decode prog_11_method_7_code 76 = .ok (.iload 5, 2) := by decide +kernel
theorem dX9_takeNumber_78 : decode prog_11_method_7_code 78 = .ok (.iload_n 2, 1) := by decide +kernel
theorem dX9_takeNumber_79 : decode prog_11_method_7_code 79 = .ok (.isub, 1) := by decide +kernel
theorem dX9_takeNumber_80 : decode prog_11_method_7_code 80 = .ok (.bipush 10, 2) := by decide +kernel
theorem dX9_takeNumber_82 : decode prog_11_method_7_code 82 = .ok (.if_icmp .ge 21, 3) := by decide +kernel
theorem dX9_takeNumber_85 : decode prog_11_method_7_code 85 = .ok (.lload_n 3, 1) := by decide +kernel
theorem dX9_takeNumber_86 : decode prog_11_method_7_code 86 = .ok (.ldc2_w 37, 3) := by decide +kernel
theorem dX9_takeNumber_89 : decode prog_11_method_7_code 89 = .ok (.lmul, 1) := by decide +kernel
theorem dX9_takeNumber_90 : decode prog_11_method_7_code 90 = .ok (.aload_n 0, 1) := by decide +kernel
theorem dX9_takeNumber_91 : decode prog_11_method_7_code 91 = .ok (.getfield 9, 3) := by decide +kernel
theorem dX9_takeNumber_94 : decode prog_11_method_7_code 94 = .ok (.iload 5, 2) := by decide +kernel
theorem dX9_takeNumber_96 : decode prog_11_method_7_code 96 = .ok (.baload, 1) := by decide +kernel
theorem dX9_takeNumber_97 : decode prog_11_method_7_code 97 = .ok (.bipush 48, 2) := by decide +kernel
theorem dX9_takeNumber_99 : decode prog_11_method_7_code 99 = .ok (.isub, 1) := by decide +kernel
theorem dX9_takeNumber_100 : decode prog_11_method_7_code 100 = .ok (.i2l, 1) := by decide +kernel
theorem dX9_takeNumber_101 : decode prog_11_method_7_code 101 = .ok (.ladd, 1) := by decide +kernel
theorem dX9_takeNumber_102 : decode prog_11_method_7_code 102 = .ok (.lstore_n 3, 1) := by decide +kernel
theorem dX9_takeNumber_103 : decode prog_11_method_7_code 103 = .ok (.iinc 5 1, 3) := by decide +kernel
theorem dX9_takeNumber_106 : decode prog_11_method_7_code 106 = .ok (.goto (-63), 3) := by decide +kernel
theorem dX9_takeNumber_109 : decode prog_11_method_7_code 109 = .ok (.iload 5, 2) := by decide +kernel
theorem dX9_takeNumber_111 : decode prog_11_method_7_code 111 = .ok (.iload_n 2, 1) := by decide +kernel
theorem dX9_takeNumber_112 : decode prog_11_method_7_code 112 = .ok (.isub, 1) := by decide +kernel
theorem dX9_takeNumber_113 : decode prog_11_method_7_code 113 = .ok (.istore 6, 2) := by decide +kernel
theorem dX9_takeNumber_115 : decode prog_11_method_7_code 115 = .ok (.iload 6, 2) := by decide +kernel
theorem dX9_takeNumber_117 : decode prog_11_method_7_code 117 = .ok (.iconst 1, 1) := by decide +kernel
theorem dX9_takeNumber_118 : decode prog_11_method_7_code 118 = .ok (.if_icmp .lt 22, 3) := by decide +kernel
theorem dX9_takeNumber_121 : decode prog_11_method_7_code 121 = .ok (.iload 6, 2) := by decide +kernel
theorem dX9_takeNumber_123 : decode prog_11_method_7_code 123 = .ok (.bipush 10, 2) := by decide +kernel
theorem dX9_takeNumber_125 : decode prog_11_method_7_code 125 = .ok (.if_icmp .gt 15, 3) := by decide +kernel
theorem dX9_takeNumber_128 : decode prog_11_method_7_code 128 = .ok (.lload_n 3, 1) := by decide +kernel
theorem dX9_takeNumber_129 : decode prog_11_method_7_code 129 = .ok (.ldc2_w 39, 3) := by decide +kernel
theorem dX9_takeNumber_132 : decode prog_11_method_7_code 132 = .ok (.lcmp, 1) := by decide +kernel
theorem dX9_takeNumber_133 : decode prog_11_method_7_code 133 = .ok (.ifCond .gt 7, 3) := by decide +kernel
theorem dX9_takeNumber_136 : decode prog_11_method_7_code 136 = .ok (.iconst 1, 1) := by decide +kernel
theorem dX9_takeNumber_137 : decode prog_11_method_7_code 137 = .ok (.goto 4, 3) := by decide +kernel
theorem dX9_takeNumber_140 : decode prog_11_method_7_code 140 = .ok (.iconst 0, 1) := by decide +kernel
theorem dX9_takeNumber_141 : decode prog_11_method_7_code 141 = .ok (.istore 7, 2) := by decide +kernel
theorem dX9_takeNumber_143 : decode prog_11_method_7_code 143 = .ok (.aload_n 0, 1) := by decide +kernel
theorem dX9_takeNumber_144 : decode prog_11_method_7_code 144 = .ok (.iload 7, 2) := by decide +kernel
theorem dX9_takeNumber_146 : decode prog_11_method_7_code 146 = .ok (.ifCond .eq 7, 3) := by decide +kernel
theorem dX9_takeNumber_149 : decode prog_11_method_7_code 149 = .ok (.iconst 2, 1) := by decide +kernel
theorem dX9_takeNumber_150 : decode prog_11_method_7_code 150 = .ok (.goto 4, 3) := by decide +kernel
theorem dX9_takeNumber_153 : decode prog_11_method_7_code 153 = .ok (.iconst 4, 1) := by decide +kernel
theorem dX9_takeNumber_154 : decode prog_11_method_7_code 154 = .ok (.putfield 28, 3) := by decide +kernel
theorem dX9_takeNumber_157 : decode prog_11_method_7_code 157 = .ok (.aload_n 0, 1) := by decide +kernel
theorem dX9_takeNumber_158 : decode prog_11_method_7_code 158 = .ok (.iload 7, 2) := by decide +kernel
theorem dX9_takeNumber_160 : decode prog_11_method_7_code 160 = .ok (.ifCond .eq 17, 3) := by decide +kernel
theorem dX9_takeNumber_163 : decode prog_11_method_7_code 163 = .ok (.iload_n 1, 1) := by decide +kernel
theorem dX9_takeNumber_164 : decode prog_11_method_7_code 164 = .ok (.ifCond .eq 8, 3) := by decide +kernel
theorem dX9_takeNumber_167 : decode prog_11_method_7_code 167 = .ok (.lload_n 3, 1) := by decide +kernel
theorem dX9_takeNumber_168 : decode prog_11_method_7_code 168 = .ok (.lneg, 1) := by decide +kernel
theorem dX9_takeNumber_169 : decode prog_11_method_7_code 169 = .ok (.goto 4, 3) := by decide +kernel
theorem dX9_takeNumber_172 : decode prog_11_method_7_code 172 = .ok (.lload_n 3, 1) := by decide +kernel
theorem dX9_takeNumber_173 : decode prog_11_method_7_code 173 = .ok (.l2i, 1) := by decide +kernel
theorem dX9_takeNumber_174 : decode prog_11_method_7_code 174 = .ok (.goto 4, 3) := by decide +kernel
theorem dX9_takeNumber_177 : decode prog_11_method_7_code 177 = .ok (.iconst 0, 1) := by decide +kernel
theorem dX9_takeNumber_178 : decode prog_11_method_7_code 178 = .ok (.putfield 41, 3) := by decide +kernel
theorem dX9_takeNumber_181 : decode prog_11_method_7_code 181 = .ok (.aload_n 0, 1) := by decide +kernel
theorem dX9_takeNumber_182 : decode prog_11_method_7_code 182 = .ok (.iload 5, 2) := by decide +kernel
theorem dX9_takeNumber_184 : decode prog_11_method_7_code 184 = .ok (.putfield 19, 3) := by decide +kernel
theorem dX9_takeNumber_187 : decode prog_11_method_7_code 187 = .ok (.return_, 1) := by decide +kernel
theorem dX9_skipSign_0 : decode prog_11_method_8_code 0 = .ok (.aload_n 0, 1) := by decide +kernel
theorem dX9_skipSign_1 : decode prog_11_method_8_code 1 = .ok (.getfield 28, 3) := by decide +kernel
theorem dX9_skipSign_4 : decode prog_11_method_8_code 4 = .ok (.iconst 3, 1) := by decide +kernel
theorem dX9_skipSign_5 : decode prog_11_method_8_code 5 = .ok (.if_icmp .ne 16, 3) := by decide +kernel
theorem dX9_skipSign_8 : decode prog_11_method_8_code 8 = .ok (.aload_n 0, 1) := by decide +kernel
theorem dX9_skipSign_9 : decode prog_11_method_8_code 9 = .ok (.getfield 9, 3) := by decide +kernel
theorem dX9_skipSign_12 : decode prog_11_method_8_code 12 = .ok (.aload_n 0, 1) := by decide +kernel
theorem dX9_skipSign_13 : decode prog_11_method_8_code 13 = .ok (.getfield 25, 3) := by decide +kernel
theorem dX9_skipSign_16 : decode prog_11_method_8_code 16 = .ok (.baload, 1) := by decide +kernel
theorem dX9_skipSign_17 : decode prog_11_method_8_code 17 = .ok (.iload_n 1, 1) := by decide +kernel
theorem dX9_skipSign_18 : decode prog_11_method_8_code 18 = .ok (.if_icmp .eq 5, 3) := by decide +kernel
theorem dX9_skipSign_21 : decode prog_11_method_8_code 21 = .ok (.iconst 0, 1) := by decide +kernel
theorem dX9_skipSign_22 : decode prog_11_method_8_code 22 = .ok (.ireturn, 1) := by decide +kernel
theorem dX9_skipSign_23 : decode prog_11_method_8_code 23 = .ok (.aload_n 0, 1) := by decide +kernel
theorem dX9_skipSign_24 : decode prog_11_method_8_code 24 = .ok (.invokevirtual 22, 3) := by decide +kernel
theorem dX9_skipSign_27 : decode prog_11_method_8_code 27 = .ok (.iconst 1, 1) := by decide +kernel
theorem dX9_skipSign_28 : decode prog_11_method_8_code 28 = .ok (.ireturn, 1) := by decide +kernel
theorem dX9_skipWord_0 : decode prog_11_method_9_code 0 = .ok (.aload_n 0, 1) := by decide +kernel
theorem dX9_skipWord_1 : decode prog_11_method_9_code 1 = .ok (.getfield 28, 3) := by decide +kernel
theorem dX9_skipWord_4 : decode prog_11_method_9_code 4 = .ok (.iconst 1, 1) := by decide +kernel
theorem dX9_skipWord_5 : decode prog_11_method_9_code 5 = .ok (.if_icmp .eq 5, 3) := by decide +kernel
theorem dX9_skipWord_8 : decode prog_11_method_9_code 8 = .ok (.iconst (-1), 1) := by decide +kernel
theorem dX9_skipWord_9 : decode prog_11_method_9_code 9 = .ok (.ireturn, 1) := by decide +kernel
theorem dX9_skipWord_10 : decode prog_11_method_9_code 10 = .ok (.iconst 0, 1) := by decide +kernel
theorem dX9_skipWord_11 : decode prog_11_method_9_code 11 = .ok (.istore_n 2, 1) := by decide +kernel
theorem dX9_skipWord_12 : decode prog_11_method_9_code 12 = .ok (.iconst 0, 1) := by decide +kernel
theorem dX9_skipWord_13 : decode prog_11_method_9_code 13 = .ok (.istore_n 3, 1) := by decide +kernel
theorem dX9_skipWord_14 : decode prog_11_method_9_code 14 = .ok (.iconst 0, 1) := by decide +kernel
theorem dX9_skipWord_15 : decode prog_11_method_9_code 15 = .ok (.istore 4, 2) := by decide +kernel
theorem dX9_skipWord_17 : decode prog_11_method_9_code 17 = .ok (.iload 4, 2) := by decide +kernel
theorem dX9_skipWord_19 : decode prog_11_method_9_code 19 = .ok (.aload_n 1, 1) := by decide +kernel
theorem dX9_skipWord_20 : decode prog_11_method_9_code 20 = .ok (.invokevirtual 44, 3) := by decide +kernel
theorem dX9_skipWord_23 : decode prog_11_method_9_code 23 = .ok (.if_icmp .gt 54, 3) := by decide +kernel
theorem dX9_skipWord_26 : decode prog_11_method_9_code 26 = .ok (.iload 4, 2) := by decide +kernel
theorem dX9_skipWord_28 : decode prog_11_method_9_code 28 = .ok (.aload_n 1, 1) := by decide +kernel
theorem dX9_skipWord_29 : decode prog_11_method_9_code 29 = .ok (.invokevirtual 44, 3) := by decide +kernel
theorem dX9_skipWord_32 : decode prog_11_method_9_code 32 = .ok (.if_icmp .eq 14, 3) := by decide +kernel
theorem dX9_skipWord_35 : decode prog_11_method_9_code 35 = .ok (.aload_n 1, 1) := by decide +kernel
theorem dX9_skipWord_36 : decode prog_11_method_9_code 36 = .ok (.iload 4, 2) := by decide +kernel
theorem dX9_skipWord_38 : decode prog_11_method_9_code 38 = .ok (.invokevirtual 50, 3) := by decide +kernel
theorem dX9_skipWord_41 : decode prog_11_method_9_code 41 = .ok (.bipush 32, 2) := by decide +kernel
theorem dX9_skipWord_43 : decode prog_11_method_9_code 43 = .ok (.if_icmp .ne 28, 3) := by decide +kernel
theorem dX9_skipWord_46 : decode prog_11_method_9_code 46 = .ok (.aload_n 0, 1) := by decide +kernel
theorem dX9_skipWord_47 : decode prog_11_method_9_code 47 = .ok (.aload_n 1, 1) := by decide +kernel
theorem dX9_skipWord_48 : decode prog_11_method_9_code 48 = .ok (.iload_n 3, 1) := by decide +kernel
theorem dX9_skipWord_49 : decode prog_11_method_9_code 49 = .ok (.iload 4, 2) := by decide +kernel
theorem dX9_skipWord_51 : decode prog_11_method_9_code 51 = .ok (.invokevirtual 54, 3) := by decide +kernel
theorem dX9_skipWord_54 : decode prog_11_method_9_code 54 = .ok (.ifCond .eq 9, 3) := by decide +kernel
theorem dX9_skipWord_57 : decode prog_11_method_9_code 57 = .ok (.aload_n 0, 1) := by decide +kernel
theorem dX9_skipWord_58 : decode prog_11_method_9_code 58 = .ok (.invokevirtual 22, 3) := by decide +kernel
theorem dX9_skipWord_61 : decode prog_11_method_9_code 61 = .ok (.iload_n 2, 1) := by decide +kernel
theorem dX9_skipWord_62 : decode prog_11_method_9_code 62 = .ok (.ireturn, 1) := by decide +kernel
theorem dX9_skipWord_63 : decode prog_11_method_9_code 63 = .ok (.iinc 2 1, 3) := by decide +kernel
theorem dX9_skipWord_66 : decode prog_11_method_9_code 66 = .ok (.iload 4, 2) := by decide +kernel
theorem dX9_skipWord_68 : decode prog_11_method_9_code 68 = .ok (.iconst 1, 1) := by decide +kernel
theorem dX9_skipWord_69 : decode prog_11_method_9_code 69 = .ok (.iadd, 1) := by decide +kernel
theorem dX9_skipWord_70 : decode prog_11_method_9_code 70 = .ok (.istore_n 3, 1) := by decide +kernel
theorem dX9_skipWord_71 : decode prog_11_method_9_code 71 = .ok (.iinc 4 1, 3) := by decide +kernel
theorem dX9_skipWord_74 : decode prog_11_method_9_code 74 = .ok (.goto (-57), 3) := by decide +kernel
theorem dX9_skipWord_77 : decode prog_11_method_9_code 77 = .ok (.iconst (-1), 1) := by decide +kernel
theorem dX9_skipWord_78 : decode prog_11_method_9_code 78 = .ok (.ireturn, 1) := by decide +kernel
theorem dX9_isToken_0 : decode prog_11_method_10_code 0 = .ok (.iload_n 3, 1) := by decide +kernel
theorem dX9_isToken_1 : decode prog_11_method_10_code 1 = .ok (.iload_n 2, 1) := by decide +kernel
theorem dX9_isToken_2 : decode prog_11_method_10_code 2 = .ok (.isub, 1) := by decide +kernel
theorem dX9_isToken_3 : decode prog_11_method_10_code 3 = .ok (.aload_n 0, 1) := by decide +kernel
theorem dX9_isToken_4 : decode prog_11_method_10_code 4 = .ok (.getfield 19, 3) := by decide +kernel
theorem dX9_isToken_7 : decode prog_11_method_10_code 7 = .ok (.aload_n 0, 1) := by decide +kernel
theorem dX9_isToken_8 : decode prog_11_method_10_code 8 = .ok (.getfield 25, 3) := by decide +kernel
theorem dX9_isToken_11 : decode prog_11_method_10_code 11 = .ok (.isub, 1) := by decide +kernel
theorem dX9_isToken_12 : decode prog_11_method_10_code 12 = .ok (.if_icmp .eq 5, 3) := by decide +kernel
theorem dX9_isToken_15 : decode prog_11_method_10_code 15 = .ok (.iconst 0, 1) := by decide +kernel
theorem dX9_isToken_16 : decode prog_11_method_10_code 16 = .ok (.ireturn, 1) := by decide +kernel
theorem dX9_isToken_17 : decode prog_11_method_10_code 17 = .ok (.iload_n 2, 1) := by decide +kernel
theorem dX9_isToken_18 : decode prog_11_method_10_code 18 = .ok (.istore 4, 2) := by decide +kernel
theorem dX9_isToken_20 : decode prog_11_method_10_code 20 = .ok (.iload 4, 2) := by decide +kernel
theorem dX9_isToken_22 : decode prog_11_method_10_code 22 = .ok (.iload_n 3, 1) := by decide +kernel
theorem dX9_isToken_23 : decode prog_11_method_10_code 23 = .ok (.if_icmp .ge 34, 3) := by decide +kernel
theorem dX9_isToken_26 : decode prog_11_method_10_code 26 = .ok (.aload_n 1, 1) := by decide +kernel
theorem dX9_isToken_27 : decode prog_11_method_10_code 27 = .ok (.iload 4, 2) := by decide +kernel
theorem dX9_isToken_29 : decode prog_11_method_10_code 29 = .ok (.invokevirtual 50, 3) := by decide +kernel
theorem dX9_isToken_32 : decode prog_11_method_10_code 32 = .ok (.aload_n 0, 1) := by decide +kernel
theorem dX9_isToken_33 : decode prog_11_method_10_code 33 = .ok (.getfield 9, 3) := by decide +kernel
theorem dX9_isToken_36 : decode prog_11_method_10_code 36 = .ok (.aload_n 0, 1) := by decide +kernel
theorem dX9_isToken_37 : decode prog_11_method_10_code 37 = .ok (.getfield 25, 3) := by decide +kernel
theorem dX9_isToken_40 : decode prog_11_method_10_code 40 = .ok (.iload 4, 2) := by decide +kernel
theorem dX9_isToken_42 : decode prog_11_method_10_code 42 = .ok (.iadd, 1) := by decide +kernel
theorem dX9_isToken_43 : decode prog_11_method_10_code 43 = .ok (.iload_n 2, 1) := by decide +kernel
theorem dX9_isToken_44 : decode prog_11_method_10_code 44 = .ok (.isub, 1) := by decide +kernel
theorem dX9_isToken_45 : decode prog_11_method_10_code 45 = .ok (.baload, 1) := by decide +kernel
theorem dX9_isToken_46 : decode prog_11_method_10_code 46 = .ok (.if_icmp .eq 5, 3) := by decide +kernel
theorem dX9_isToken_49 : decode prog_11_method_10_code 49 = .ok (.iconst 0, 1) := by decide +kernel
theorem dX9_isToken_50 : decode prog_11_method_10_code 50 = .ok (.ireturn, 1) := by decide +kernel
theorem dX9_isToken_51 : decode prog_11_method_10_code 51 = .ok (.iinc 4 1, 3) := by decide +kernel
theorem dX9_isToken_54 : decode prog_11_method_10_code 54 = .ok (.goto (-34), 3) := by decide +kernel
theorem dX9_isToken_57 : decode prog_11_method_10_code 57 = .ok (.iconst 1, 1) := by decide +kernel
theorem dX9_isToken_58 : decode prog_11_method_10_code 58 = .ok (.ireturn, 1) := by decide +kernel
theorem dX10_init_0 : decode prog_1_method_1_code 0 = .ok (.aload_n 0, 1) := by decide +kernel
theorem dX10_init_1 : decode prog_1_method_1_code 1 = .ok (.invokespecial 1, 3) := by decide +kernel
theorem dX10_init_4 : decode prog_1_method_1_code 4 = .ok (.aload_n 0, 1) := by decide +kernel
theorem dX10_init_5 : decode prog_1_method_1_code 5 = .ok (.new 7, 3) := by decide +kernel
theorem dX10_init_8 : decode prog_1_method_1_code 8 = .ok (.dup, 1) := by decide +kernel
theorem dX10_init_9 : decode prog_1_method_1_code 9 = .ok (.invokespecial 9, 3) := by decide +kernel
theorem dX10_init_12 : decode prog_1_method_1_code 12 = .ok (.putfield 10, 3) := by decide +kernel
theorem dX10_init_15 : decode prog_1_method_1_code 15 = .ok (.aload_n 0, 1) := by decide +kernel
theorem dX10_init_16 : decode prog_1_method_1_code 16 = .ok (.new 16, 3) := by decide +kernel
theorem dX10_init_19 : decode prog_1_method_1_code 19 = .ok (.dup, 1) := by decide +kernel
theorem dX10_init_20 : decode prog_1_method_1_code 20 = .ok (.invokespecial 18, 3) := by decide +kernel
theorem dX10_init_23 : decode prog_1_method_1_code 23 = .ok (.putfield 19, 3) := by decide +kernel
theorem dX10_init_26 : decode prog_1_method_1_code 26 = .ok (.aload_n 0, 1) := by decide +kernel
theorem dX10_init_27 : decode prog_1_method_1_code 27 = .ok (.new 23, 3) := by decide +kernel
theorem dX10_init_30 : decode prog_1_method_1_code 30 = .ok (.dup, 1) := by decide +kernel
theorem dX10_init_31 : decode prog_1_method_1_code 31 = .ok (.invokespecial 25, 3) := by decide +kernel
theorem dX10_init_34 : decode prog_1_method_1_code 34 = .ok (.putfield 26, 3) := by decide +kernel
theorem dX10_init_37 : decode prog_1_method_1_code 37 = .ok (.new 30, 3) := by decide +kernel
theorem dX10_init_40 : decode prog_1_method_1_code 40 = .ok (.dup, 1) := by decide +kernel
theorem dX10_init_41 : decode prog_1_method_1_code 41 = .ok (.invokespecial 32, 3) := by decide +kernel
theorem dX10_init_44 : decode prog_1_method_1_code 44 = .ok (.astore_n 1, 1) := by decide +kernel
theorem dX10_init_45 : decode prog_1_method_1_code 45 = .ok (.aload_n 0, 1) := by decide +kernel
theorem dX10_init_46 : decode prog_1_method_1_code 46 = .ok (.new 33, 3) := by decide +kernel
theorem dX10_init_49 : decode prog_1_method_1_code 49 = .ok (.dup, 1) := by decide +kernel
theorem dX10_init_50 : decode prog_1_method_1_code 50 = .ok (.aload_n 1, 1) := by decide +kernel
theorem dX10_init_51 : decode prog_1_method_1_code 51 = .ok (.invokespecial 35, 3) := by decide +kernel
theorem dX10_init_54 : decode prog_1_method_1_code 54 = .ok (.putfield 38, 3) := by decide +kernel
theorem dX10_init_57 : decode prog_1_method_1_code 57 = .ok (.aload_n 0, 1) := by decide +kernel
theorem dX10_init_58 : decode prog_1_method_1_code 58 = .ok (.new 42, 3) := by decide +kernel
theorem dX10_init_61 : decode prog_1_method_1_code 61 = .ok (.dup, 1) := by decide +kernel
theorem dX10_init_62 : decode prog_1_method_1_code 62 = .ok (.aload_n 1, 1) := by decide +kernel
theorem dX10_init_63 : decode prog_1_method_1_code 63 = .ok (.invokespecial 44, 3) := by decide +kernel
theorem dX10_init_66 : decode prog_1_method_1_code 66 = .ok (.putfield 45, 3) := by decide +kernel
theorem dX10_init_69 : decode prog_1_method_1_code 69 = .ok (.aload_n 0, 1) := by decide +kernel
theorem dX10_init_70 : decode prog_1_method_1_code 70 = .ok (.sipush 200, 3) := by decide +kernel
theorem dX10_init_73 : decode prog_1_method_1_code 73 = .ok (.anewarray 49, 3) := by decide +kernel
theorem dX10_init_76 : decode prog_1_method_1_code 76 = .ok (.putfield 51, 3) := by decide +kernel
theorem dX10_init_79 : decode prog_1_method_1_code 79 = .ok (.iconst 0, 1) := by decide +kernel
theorem dX10_init_80 : decode prog_1_method_1_code 80 = .ok (.istore_n 2, 1) := by decide +kernel
theorem dX10_init_81 : decode prog_1_method_1_code 81 = .ok (.iload_n 2, 1) := by decide +kernel
theorem dX10_init_82 : decode prog_1_method_1_code 82 = .ok (.sipush 200, 3) := by decide +kernel
theorem dX10_init_85 : decode prog_1_method_1_code 85 = .ok (.if_icmp .ge 22, 3) := by decide +kernel
theorem dX10_init_88 : decode prog_1_method_1_code 88 = .ok (.aload_n 0, 1) := by decide +kernel
theorem dX10_init_89 : decode prog_1_method_1_code 89 = .ok (.getfield 51, 3) := by decide +kernel
theorem dX10_init_92 : decode prog_1_method_1_code 92 = .ok (.iload_n 2, 1) := by decide +kernel
theorem dX10_init_93 : decode prog_1_method_1_code 93 = .ok (.new 49, 3) := by decide +kernel
theorem dX10_init_96 : decode prog_1_method_1_code 96 = .ok (.dup, 1) := by decide +kernel
theorem dX10_init_97 : decode prog_1_method_1_code 97 = .ok (.invokespecial 55, 3) := by decide +kernel
theorem dX10_init_100 : decode prog_1_method_1_code 100 = .ok (.aastore, 1) := by decide +kernel
theorem dX10_init_101 : decode prog_1_method_1_code 101 = .ok (.iinc 2 1, 3) := by decide +kernel
theorem dX10_init_104 : decode prog_1_method_1_code 104 = .ok (.goto (-23), 3) := by decide +kernel
theorem dX10_init_107 : decode prog_1_method_1_code 107 = .ok (.aload_n 0, 1) := by decide +kernel
theorem dX10_init_108 : decode prog_1_method_1_code 108 = .ok (.sipush 200, 3) := by decide +kernel
theorem dX10_init_111 : decode prog_1_method_1_code 111 = .ok (.newarray .int, 2) := by decide +kernel
theorem dX10_init_113 : decode prog_1_method_1_code 113 = .ok (.putfield 56, 3) := by decide +kernel
theorem dX10_init_116 : decode prog_1_method_1_code 116 = .ok (.aload_n 0, 1) := by decide +kernel
theorem dX10_init_117 : decode prog_1_method_1_code 117 = .ok (.sipush 20000, 3) := by decide +kernel
theorem dX10_init_120 : decode prog_1_method_1_code 120 = .ok (.newarray .int, 2) := by decide +kernel
theorem dX10_init_122 : decode prog_1_method_1_code 122 = .ok (.putfield 60, 3) := by decide +kernel
theorem dX10_init_125 : decode prog_1_method_1_code 125 = .ok (.aload_n 0, 1) := by decide +kernel
theorem dX10_init_126 : decode prog_1_method_1_code 126 = .ok (.iconst 0, 1) := by decide +kernel
theorem dX10_init_127 : decode prog_1_method_1_code 127 = .ok (.putfield 63, 3) := by decide +kernel
theorem dX10_init_130 : decode prog_1_method_1_code 130 = .ok (.aload_n 0, 1) := by decide +kernel
theorem dX10_init_131 : decode prog_1_method_1_code 131 = .ok (.iconst 0, 1) := by decide +kernel
theorem dX10_init_132 : decode prog_1_method_1_code 132 = .ok (.putfield 67, 3) := by decide +kernel
theorem dX10_init_135 : decode prog_1_method_1_code 135 = .ok (.aload_n 0, 1) := by decide +kernel
theorem dX10_init_136 : decode prog_1_method_1_code 136 = .ok (.iconst (-1), 1) := by decide +kernel
theorem dX10_init_137 : decode prog_1_method_1_code 137 = .ok (.putfield 70, 3) := by decide +kernel
theorem dX10_init_140 : decode prog_1_method_1_code 140 = .ok (.return_, 1) := by decide +kernel
theorem dX10_feed_0 : decode prog_1_method_2_code 0 = .ok (.aload_n 0, 1) := by decide +kernel
theorem dX10_feed_1 : decode prog_1_method_2_code 1 = .ok (.getfield 10, 3) := by decide +kernel
theorem dX10_feed_4 : decode prog_1_method_2_code 4 = .ok (.getfield 73, 3) := by decide +kernel
theorem dX10_feed_7 : decode prog_1_method_2_code 7 = .ok (.bipush 40, 2) := by decide +kernel
theorem dX10_feed_9 : decode prog_1_method_2_code 9 = .ok (.iadd, 1) := by decide +kernel
theorem dX10_feed_10 : decode prog_1_method_2_code 10 = .ok (.sipush 4000, 3) := by decide +kernel
theorem dX10_feed_13 : decode prog_1_method_2_code 13 = .ok (.if_icmp .le 5, 3) := by decide +kernel
theorem dX10_feed_16 : decode prog_1_method_2_code 16 = .ok (.iconst (-1), 1) := by decide +kernel
theorem dX10_feed_17 : decode prog_1_method_2_code 17 = .ok (.ireturn, 1) := by decide +kernel
theorem dX10_feed_18 : decode prog_1_method_2_code 18 = .ok (.aload_n 0, 1) := by decide +kernel
theorem dX10_feed_19 : decode prog_1_method_2_code 19 = .ok (.getfield 10, 3) := by decide +kernel
theorem dX10_feed_22 : decode prog_1_method_2_code 22 = .ok (.lload_n 1, 1) := by decide +kernel
theorem dX10_feed_23 : decode prog_1_method_2_code 23 = .ok (.invokevirtual 76, 3) := by decide +kernel
theorem dX10_feed_26 : decode prog_1_method_2_code 26 = .ok (.aload_n 0, 1) := by decide +kernel
theorem dX10_feed_27 : decode prog_1_method_2_code 27 = .ok (.getfield 10, 3) := by decide +kernel
theorem dX10_feed_30 : decode prog_1_method_2_code 30 = .ok (.lload_n 3, 1) := by decide +kernel
theorem dX10_feed_31 : decode prog_1_method_2_code 31 = .ok (.invokevirtual 76, 3) := by decide +kernel
theorem dX10_feed_34 : decode prog_1_method_2_code 34 = .ok (.aload_n 0, 1) := by decide +kernel
theorem dX10_feed_35 : decode prog_1_method_2_code 35 = .ok (.getfield 10, 3) := by decide +kernel
theorem dX10_feed_38 : decode prog_1_method_2_code 38 = .ok (.lload 5, 2) := by decide +kernel
theorem dX10_feed_40 : decode prog_1_method_2_code 40 = .ok (.invokevirtual 76, 3) := by decide +kernel
theorem dX10_feed_43 : decode prog_1_method_2_code 43 = .ok (.aload_n 0, 1) := by decide +kernel
theorem dX10_feed_44 : decode prog_1_method_2_code 44 = .ok (.getfield 10, 3) := by decide +kernel
theorem dX10_feed_47 : decode prog_1_method_2_code 47 = .ok (.lload 7, 2) := by decide +kernel
theorem dX10_feed_49 : decode prog_1_method_2_code 49 = .ok (.invokevirtual 76, 3) := by decide +kernel
theorem dX10_feed_52 : decode prog_1_method_2_code 52 = .ok (.aload_n 0, 1) := by decide +kernel
theorem dX10_feed_53 : decode prog_1_method_2_code 53 = .ok (.getfield 10, 3) := by decide +kernel
theorem dX10_feed_56 : decode prog_1_method_2_code 56 = .ok (.lload 9, 2) := by decide +kernel
theorem dX10_feed_58 : decode prog_1_method_2_code 58 = .ok (.invokevirtual 76, 3) := by decide +kernel
theorem dX10_feed_61 : decode prog_1_method_2_code 61 = .ok (.aload_n 0, 1) := by decide +kernel
theorem dX10_feed_62 : decode prog_1_method_2_code 62 = .ok (.getfield 10, 3) := by decide +kernel
theorem dX10_feed_65 : decode prog_1_method_2_code 65 = .ok (.getfield 73, 3) := by decide +kernel
theorem dX10_feed_68 : decode prog_1_method_2_code 68 = .ok (.ireturn, 1) := by decide +kernel
theorem dX10_end_0 : decode prog_1_method_3_code 0 = .ok (.iload_n 1, 1) := by decide +kernel
theorem dX10_end_1 : decode prog_1_method_3_code 1 = .ok (.ifCond .lt 23, 3) := by decide +kernel
theorem dX10_end_4 : decode prog_1_method_3_code 4 = .ok (.iload_n 1, 1) := by decide +kernel
theorem dX10_end_5 : decode prog_1_method_3_code 5 = .ok (.bipush 40, 2) := by decide +kernel
theorem dX10_end_7 : decode prog_1_method_3_code 7 = .ok (.if_icmp .gt 17, 3) := by decide +kernel
theorem dX10_end_10 : decode prog_1_method_3_code 10 = .ok (.aload_n 0, 1) := by decide +kernel
theorem dX10_end_11 : decode prog_1_method_3_code 11 = .ok (.getfield 10, 3) := by decide +kernel
theorem dX10_end_14 : decode prog_1_method_3_code 14 = .ok (.getfield 73, 3) := by decide +kernel
theorem dX10_end_17 : decode prog_1_method_3_code 17 = .ok (.bipush 40, 2) := by decide +kernel
theorem dX10_end_19 : decode prog_1_method_3_code 19 = .ok (.iload_n 1, 1) := by decide +kernel
theorem dX10_end_20 : decode prog_1_method_3_code 20 = .ok (.isub, 1) := by decide +kernel
theorem dX10_end_21 : decode prog_1_method_3_code 21 = .ok (.if_icmp .ge 5, 3) := by decide +kernel
theorem dX10_end_24 : decode prog_1_method_3_code 24 = .ok (.iconst (-1), 1) := by decide +kernel
theorem dX10_end_25 : decode prog_1_method_3_code 25 = .ok (.ireturn, 1) := by decide +kernel
theorem dX10_end_26 : decode prog_1_method_3_code 26 = .ok (.aload_n 0, 1) := by decide +kernel
theorem dX10_end_27 : decode prog_1_method_3_code 27 = .ok (.getfield 10, 3) := by decide +kernel
theorem dX10_end_30 : decode prog_1_method_3_code 30 = .ok (.dup, 1) := by decide +kernel
theorem dX10_end_31 : decode prog_1_method_3_code 31 = .ok (.getfield 73, 3) := by decide +kernel
theorem dX10_end_34 : decode prog_1_method_3_code 34 = .ok (.bipush 40, 2) := by decide +kernel
theorem dX10_end_36 : decode prog_1_method_3_code 36 = .ok (.iload_n 1, 1) := by decide +kernel
theorem dX10_end_37 : decode prog_1_method_3_code 37 = .ok (.isub, 1) := by decide +kernel
theorem dX10_end_38 : decode prog_1_method_3_code 38 = .ok (.isub, 1) := by decide +kernel
theorem dX10_end_39 : decode prog_1_method_3_code 39 = .ok (.putfield 73, 3) := by decide +kernel
theorem dX10_end_42 : decode prog_1_method_3_code 42 = .ok (.aload_n 0, 1) := by decide +kernel
theorem dX10_end_43 : decode prog_1_method_3_code 43 = .ok (.getfield 10, 3) := by decide +kernel
theorem dX10_end_46 : decode prog_1_method_3_code 46 = .ok (.getfield 73, 3) := by decide +kernel
theorem dX10_end_49 : decode prog_1_method_3_code 49 = .ok (.ireturn, 1) := by decide +kernel
theorem dX10_run_0 : decode prog_1_method_4_code 0 = .ok (.aload_n 0, 1) := by decide +kernel
theorem dX10_run_1 : decode prog_1_method_4_code 1 = .ok (.getfield 26, 3) := by decide +kernel
theorem dX10_run_4 : decode prog_1_method_4_code 4 = .ok (.getfield 80, 3) := by decide +kernel
theorem dX10_run_7 : decode prog_1_method_4_code 7 = .ok (.ifCond .eq 5, 3) := by decide +kernel
theorem dX10_run_10 : decode prog_1_method_4_code 10 = .ok (.iconst (-1), 1) := by decide +kernel
theorem dX10_run_11 : decode prog_1_method_4_code 11 = .ok (.ireturn, 1) := by decide +kernel
theorem dX10_run_12 : decode prog_1_method_4_code 12 = .ok (.aload_n 0, 1) := by decide +kernel
theorem dX10_run_13 : decode prog_1_method_4_code 13 = .ok (.iconst 0, 1) := by decide +kernel
theorem dX10_run_14 : decode prog_1_method_4_code 14 = .ok (.putfield 63, 3) := by decide +kernel
theorem dX10_run_17 : decode prog_1_method_4_code 17 = .ok (.aload_n 0, 1) := by decide +kernel
theorem dX10_run_18 : decode prog_1_method_4_code 18 = .ok (.iconst (-1), 1) := by decide +kernel
theorem dX10_run_19 : decode prog_1_method_4_code 19 = .ok (.putfield 70, 3) := by decide +kernel
theorem dX10_run_22 : decode prog_1_method_4_code 22 = .ok (.iconst 0, 1) := by decide +kernel
theorem dX10_run_23 : decode prog_1_method_4_code 23 = .ok (.istore_n 1, 1) := by decide +kernel
theorem dX10_run_24 : decode prog_1_method_4_code 24 = .ok (.aload_n 0, 1) := by decide +kernel
theorem dX10_run_25 : decode prog_1_method_4_code 25 = .ok (.getfield 10, 3) := by decide +kernel
theorem dX10_run_28 : decode prog_1_method_4_code 28 = .ok (.invokevirtual 84, 3) := by decide +kernel
theorem dX10_run_31 : decode prog_1_method_4_code 31 = .ok (.iload_n 1, 1) := by decide +kernel
theorem dX10_run_32 : decode prog_1_method_4_code 32 = .ok (.sipush 4000, 3) := by decide +kernel
theorem dX10_run_35 : decode prog_1_method_4_code 35 = .ok (.if_icmp .ge 219, 3) := by decide +kernel
theorem dX10_run_38 : decode prog_1_method_4_code 38 = .ok (.aload_n 0, 1) := by decide +kernel
theorem dX10_run_39 : decode prog_1_method_4_code 39 = .ok (.getfield 10, 3) := by decide +kernel
theorem dX10_run_42 : decode prog_1_method_4_code 42 = .ok (.getfield 87, 3) := by decide +kernel
theorem dX10_run_45 : decode prog_1_method_4_code 45 = .ok (.ifCond .eq 209, 3) := by decide +kernel
theorem dX10_run_48 : decode prog_1_method_4_code 48 = .ok (.aload_n 0, 1) := by decide +kernel
theorem dX10_run_49 : decode prog_1_method_4_code 49 = .ok (.getfield 19, 3) := by decide +kernel
theorem dX10_run_52 : decode prog_1_method_4_code 52 = .ok (.aload_n 0, 1) := by decide +kernel
theorem dX10_run_53 : decode prog_1_method_4_code 53 = .ok (.getfield 10, 3) := by decide +kernel
theorem dX10_run_56 : decode prog_1_method_4_code 56 = .ok (.invokevirtual 90, 3) := by decide +kernel
theorem dX10_run_59 : decode prog_1_method_4_code 59 = .ok (.ifCond .ne 17, 3) := by decide +kernel
theorem dX10_run_62 : decode prog_1_method_4_code 62 = .ok (.aload_n 0, 1) := by decide +kernel
theorem dX10_run_63 : decode prog_1_method_4_code 63 = .ok (.aload_n 0, 1) := by decide +kernel
theorem dX10_run_64 : decode prog_1_method_4_code 64 = .ok (.getfield 10, 3) := by decide +kernel
theorem dX10_run_67 : decode prog_1_method_4_code 67 = .ok (.getfield 94, 3) := by decide +kernel
theorem dX10_run_70 : decode prog_1_method_4_code 70 = .ok (.putfield 70, 3) := by decide +kernel
theorem dX10_run_73 : decode prog_1_method_4_code 73 = .ok (.goto 181, 3) := by decide +kernel
theorem dX10_run_76 : decode prog_1_method_4_code 76 = .ok (.aload_n 0, 1) := by decide +kernel
theorem dX10_run_77 : decode prog_1_method_4_code 77 = .ok (.iconst 0, 1) := by decide +kernel
theorem dX10_run_78 : decode prog_1_method_4_code 78 = .ok (.putfield 67, 3) := by decide +kernel
theorem dX10_run_81 : decode prog_1_method_4_code 81 = .ok (.aload_n 0, 1) := by decide +kernel
theorem dX10_run_82 : decode prog_1_method_4_code 82 = .ok (.getfield 19, 3) := by decide +kernel
theorem dX10_run_85 : decode prog_1_method_4_code 85 = .ok (.getfield 97, 3) := by decide +kernel
theorem dX10_run_88 : decode prog_1_method_4_code 88 = .ok (.tableswitch 132 0 12 #[68, 76, 84, 92, 132, 132, 132, 132, 132, 100, 108, 116, 124], 68) := by decide +kernel
theorem dX10_run_156 : decode prog_1_method_4_code 156 = .ok (.aload_n 0, 1) := by decide +kernel
theorem dX10_run_157 : decode prog_1_method_4_code 157 = .ok (.invokevirtual 100, 3) := by decide +kernel
theorem dX10_run_160 : decode prog_1_method_4_code 160 = .ok (.istore_n 2, 1) := by decide +kernel
theorem dX10_run_161 : decode prog_1_method_4_code 161 = .ok (.goto 74, 3) := by decide +kernel
theorem dX10_run_164 : decode prog_1_method_4_code 164 = .ok (.aload_n 0, 1) := by decide +kernel
theorem dX10_run_165 : decode prog_1_method_4_code 165 = .ok (.invokevirtual 104, 3) := by decide +kernel
theorem dX10_run_168 : decode prog_1_method_4_code 168 = .ok (.istore_n 2, 1) := by decide +kernel
theorem dX10_run_169 : decode prog_1_method_4_code 169 = .ok (.goto 66, 3) := by decide +kernel
theorem dX10_run_172 : decode prog_1_method_4_code 172 = .ok (.aload_n 0, 1) := by decide +kernel
theorem dX10_run_173 : decode prog_1_method_4_code 173 = .ok (.invokevirtual 107, 3) := by decide +kernel
theorem dX10_run_176 : decode prog_1_method_4_code 176 = .ok (.istore_n 2, 1) := by decide +kernel
theorem dX10_run_177 : decode prog_1_method_4_code 177 = .ok (.goto 58, 3) := by decide +kernel
theorem dX10_run_180 : decode prog_1_method_4_code 180 = .ok (.aload_n 0, 1) := by decide +kernel
theorem dX10_run_181 : decode prog_1_method_4_code 181 = .ok (.invokevirtual 110, 3) := by decide +kernel
theorem dX10_run_184 : decode prog_1_method_4_code 184 = .ok (.istore_n 2, 1) := by decide +kernel
theorem dX10_run_185 : decode prog_1_method_4_code 185 = .ok (.goto 50, 3) := by decide +kernel
theorem dX10_run_188 : decode prog_1_method_4_code 188 = .ok (.aload_n 0, 1) := by decide +kernel
theorem dX10_run_189 : decode prog_1_method_4_code 189 = .ok (.invokevirtual 113, 3) := by decide +kernel
theorem dX10_run_192 : decode prog_1_method_4_code 192 = .ok (.istore_n 2, 1) := by decide +kernel
theorem dX10_run_193 : decode prog_1_method_4_code 193 = .ok (.goto 42, 3) := by decide +kernel
theorem dX10_run_196 : decode prog_1_method_4_code 196 = .ok (.aload_n 0, 1) := by decide +kernel
theorem dX10_run_197 : decode prog_1_method_4_code 197 = .ok (.invokevirtual 116, 3) := by decide +kernel
theorem dX10_run_200 : decode prog_1_method_4_code 200 = .ok (.istore_n 2, 1) := by decide +kernel
theorem dX10_run_201 : decode prog_1_method_4_code 201 = .ok (.goto 34, 3) := by decide +kernel
theorem dX10_run_204 : decode prog_1_method_4_code 204 = .ok (.aload_n 0, 1) := by decide +kernel
theorem dX10_run_205 : decode prog_1_method_4_code 205 = .ok (.invokevirtual 119, 3) := by decide +kernel
theorem dX10_run_208 : decode prog_1_method_4_code 208 = .ok (.istore_n 2, 1) := by decide +kernel
theorem dX10_run_209 : decode prog_1_method_4_code 209 = .ok (.goto 26, 3) := by decide +kernel
theorem dX10_run_212 : decode prog_1_method_4_code 212 = .ok (.aload_n 0, 1) := by decide +kernel
theorem dX10_run_213 : decode prog_1_method_4_code 213 = .ok (.invokevirtual 122, 3) := by decide +kernel
theorem dX10_run_216 : decode prog_1_method_4_code 216 = .ok (.istore_n 2, 1) := by decide +kernel
theorem dX10_run_217 : decode prog_1_method_4_code 217 = .ok (.goto 18, 3) := by decide +kernel
theorem dX10_run_220 : decode prog_1_method_4_code 220 = .ok (.aload_n 0, 1) := by decide +kernel
theorem dX10_run_221 : decode prog_1_method_4_code 221 = .ok (.getfield 26, 3) := by decide +kernel
theorem dX10_run_224 : decode prog_1_method_4_code 224 = .ok (.aload_n 0, 1) := by decide +kernel
theorem dX10_run_225 : decode prog_1_method_4_code 225 = .ok (.getfield 19, 3) := by decide +kernel
theorem dX10_run_228 : decode prog_1_method_4_code 228 = .ok (.getfield 97, 3) := by decide +kernel
theorem dX10_run_231 : decode prog_1_method_4_code 231 = .ok (.invokevirtual 125, 3) := by decide +kernel
theorem dX10_run_234 : decode prog_1_method_4_code 234 = .ok (.istore_n 2, 1) := by decide +kernel
theorem dX10_run_235 : decode prog_1_method_4_code 235 = .ok (.iload_n 2, 1) := by decide +kernel
theorem dX10_run_236 : decode prog_1_method_4_code 236 = .ok (.iconst (-1), 1) := by decide +kernel
theorem dX10_run_237 : decode prog_1_method_4_code 237 = .ok (.if_icmp .ne 6, 3) := by decide +kernel
theorem dX10_run_240 : decode prog_1_method_4_code 240 = .ok (.goto 14, 3) := by decide +kernel
theorem dX10_run_243 : decode prog_1_method_4_code 243 = .ok (.aload_n 0, 1) := by decide +kernel
theorem dX10_run_244 : decode prog_1_method_4_code 244 = .ok (.iload_n 2, 1) := by decide +kernel
theorem dX10_run_245 : decode prog_1_method_4_code 245 = .ok (.invokevirtual 129, 3) := by decide +kernel
theorem dX10_run_248 : decode prog_1_method_4_code 248 = .ok (.iinc 1 1, 3) := by decide +kernel
theorem dX10_run_251 : decode prog_1_method_4_code 251 = .ok (.goto (-220), 3) := by decide +kernel
theorem dX10_run_254 : decode prog_1_method_4_code 254 = .ok (.aload_n 0, 1) := by decide +kernel
theorem dX10_run_255 : decode prog_1_method_4_code 255 = .ok (.getfield 10, 3) := by decide +kernel
theorem dX10_run_258 : decode prog_1_method_4_code 258 = .ok (.invokevirtual 133, 3) := by decide +kernel
theorem dX10_run_261 : decode prog_1_method_4_code 261 = .ok (.iload_n 1, 1) := by decide +kernel
theorem dX10_run_262 : decode prog_1_method_4_code 262 = .ok (.ireturn, 1) := by decide +kernel
theorem dX10_wrong_0 : decode prog_1_method_5_code 0 = .ok (.aload_n 0, 1) := by decide +kernel
theorem dX10_wrong_1 : decode prog_1_method_5_code 1 = .ok (.getfield 70, 3) := by decide +kernel
theorem dX10_wrong_4 : decode prog_1_method_5_code 4 = .ok (.ireturn, 1) := by decide +kernel
theorem dX10_outputs_0 : decode prog_1_method_6_code 0 = .ok (.aload_n 0, 1) := by decide +kernel
theorem dX10_outputs_1 : decode prog_1_method_6_code 1 = .ok (.getfield 63, 3) := by decide +kernel
theorem dX10_outputs_4 : decode prog_1_method_6_code 4 = .ok (.ireturn, 1) := by decide +kernel
theorem dX10_out_0 : decode prog_1_method_7_code 0 = .ok (.iload_n 1, 1) := by decide +kernel
theorem dX10_out_1 : decode prog_1_method_7_code 1 = .ok (.ifCond .lt 20, 3) := by decide +kernel
theorem dX10_out_4 : decode prog_1_method_7_code 4 = .ok (.iload_n 1, 1) := by decide +kernel
theorem dX10_out_5 : decode prog_1_method_7_code 5 = .ok (.aload_n 0, 1) := by decide +kernel
theorem dX10_out_6 : decode prog_1_method_7_code 6 = .ok (.getfield 63, 3) := by decide +kernel
theorem dX10_out_9 : decode prog_1_method_7_code 9 = .ok (.if_icmp .ge 12, 3) := by decide +kernel
theorem dX10_out_12 : decode prog_1_method_7_code 12 = .ok (.aload_n 0, 1) := by decide +kernel
theorem dX10_out_13 : decode prog_1_method_7_code 13 = .ok (.getfield 60, 3) := by decide +kernel
theorem dX10_out_16 : decode prog_1_method_7_code 16 = .ok (.iload_n 1, 1) := by decide +kernel
theorem dX10_out_17 : decode prog_1_method_7_code 17 = .ok (.iaload, 1) := by decide +kernel
theorem dX10_out_18 : decode prog_1_method_7_code 18 = .ok (.goto 4, 3) := by decide +kernel
theorem dX10_out_21 : decode prog_1_method_7_code 21 = .ok (.iconst 0, 1) := by decide +kernel
theorem dX10_out_22 : decode prog_1_method_7_code 22 = .ok (.ireturn, 1) := by decide +kernel
theorem dX10_crash_0 : decode prog_1_method_8_code 0 = .ok (.aload_n 0, 1) := by decide +kernel
theorem dX10_crash_1 : decode prog_1_method_8_code 1 = .ok (.getfield 26, 3) := by decide +kernel
theorem dX10_crash_4 : decode prog_1_method_8_code 4 = .ok (.getfield 80, 3) := by decide +kernel
theorem dX10_crash_7 : decode prog_1_method_8_code 7 = .ok (.ifCond .ne 35, 3) := by decide +kernel
theorem dX10_crash_10 : decode prog_1_method_8_code 10 = .ok (.iload_n 1, 1) := by decide +kernel
theorem dX10_crash_11 : decode prog_1_method_8_code 11 = .ok (.ifCond .lt 31, 3) := by decide +kernel
theorem dX10_crash_14 : decode prog_1_method_8_code 14 = .ok (.iload_n 1, 1) := by decide +kernel
theorem dX10_crash_15 : decode prog_1_method_8_code 15 = .ok (.iconst 1, 1) := by decide +kernel
theorem dX10_crash_16 : decode prog_1_method_8_code 16 = .ok (.if_icmp .gt 26, 3) := by decide +kernel
theorem dX10_crash_19 : decode prog_1_method_8_code 19 = .ok (.iload_n 2, 1) := by decide +kernel
theorem dX10_crash_20 : decode prog_1_method_8_code 20 = .ok (.iconst 1, 1) := by decide +kernel
theorem dX10_crash_21 : decode prog_1_method_8_code 21 = .ok (.if_icmp .lt 21, 3) := by decide +kernel
theorem dX10_crash_24 : decode prog_1_method_8_code 24 = .ok (.iload_n 2, 1) := by decide +kernel
theorem dX10_crash_25 : decode prog_1_method_8_code 25 = .ok (.sipush 1000, 3) := by decide +kernel
theorem dX10_crash_28 : decode prog_1_method_8_code 28 = .ok (.if_icmp .gt 14, 3) := by decide +kernel
theorem dX10_crash_31 : decode prog_1_method_8_code 31 = .ok (.iload_n 3, 1) := by decide +kernel
theorem dX10_crash_32 : decode prog_1_method_8_code 32 = .ok (.ifCond .lt 10, 3) := by decide +kernel
theorem dX10_crash_35 : decode prog_1_method_8_code 35 = .ok (.iload_n 3, 1) := by decide +kernel
theorem dX10_crash_36 : decode prog_1_method_8_code 36 = .ok (.sipush 200, 3) := by decide +kernel
theorem dX10_crash_39 : decode prog_1_method_8_code 39 = .ok (.if_icmp .le 5, 3) := by decide +kernel
theorem dX10_crash_42 : decode prog_1_method_8_code 42 = .ok (.iconst 0, 1) := by decide +kernel
theorem dX10_crash_43 : decode prog_1_method_8_code 43 = .ok (.ireturn, 1) := by decide +kernel
theorem dX10_crash_44 : decode prog_1_method_8_code 44 = .ok (.aload_n 0, 1) := by decide +kernel
theorem dX10_crash_45 : decode prog_1_method_8_code 45 = .ok (.getfield 26, 3) := by decide +kernel
theorem dX10_crash_48 : decode prog_1_method_8_code 48 = .ok (.iload_n 1, 1) := by decide +kernel
theorem dX10_crash_49 : decode prog_1_method_8_code 49 = .ok (.putfield 136, 3) := by decide +kernel
theorem dX10_crash_52 : decode prog_1_method_8_code 52 = .ok (.aload_n 0, 1) := by decide +kernel
theorem dX10_crash_53 : decode prog_1_method_8_code 53 = .ok (.getfield 26, 3) := by decide +kernel
theorem dX10_crash_56 : decode prog_1_method_8_code 56 = .ok (.iload_n 2, 1) := by decide +kernel
theorem dX10_crash_57 : decode prog_1_method_8_code 57 = .ok (.putfield 139, 3) := by decide +kernel
theorem dX10_crash_60 : decode prog_1_method_8_code 60 = .ok (.iconst 1, 1) := by decide +kernel
theorem dX10_crash_61 : decode prog_1_method_8_code 61 = .ok (.ireturn, 1) := by decide +kernel
theorem dX10_recover_0 : decode prog_1_method_9_code 0 = .ok (.aload_n 0, 1) := by decide +kernel
theorem dX10_recover_1 : decode prog_1_method_9_code 1 = .ok (.getfield 26, 3) := by decide +kernel
theorem dX10_recover_4 : decode prog_1_method_9_code 4 = .ok (.invokevirtual 142, 3) := by decide +kernel
theorem dX10_recover_7 : decode prog_1_method_9_code 7 = .ok (.aload_n 0, 1) := by decide +kernel
theorem dX10_recover_8 : decode prog_1_method_9_code 8 = .ok (.getfield 26, 3) := by decide +kernel
theorem dX10_recover_11 : decode prog_1_method_9_code 11 = .ok (.getfield 145, 3) := by decide +kernel
theorem dX10_recover_14 : decode prog_1_method_9_code 14 = .ok (.getfield 149, 3) := by decide +kernel
theorem dX10_recover_17 : decode prog_1_method_9_code 17 = .ok (.ireturn, 1) := by decide +kernel
theorem dX10_isDown_0 : decode prog_1_method_10_code 0 = .ok (.aload_n 0, 1) := by decide +kernel
theorem dX10_isDown_1 : decode prog_1_method_10_code 1 = .ok (.getfield 26, 3) := by decide +kernel
theorem dX10_isDown_4 : decode prog_1_method_10_code 4 = .ok (.getfield 80, 3) := by decide +kernel
theorem dX10_isDown_7 : decode prog_1_method_10_code 7 = .ok (.ireturn, 1) := by decide +kernel
theorem dX10_isOpen_0 : decode prog_1_method_11_code 0 = .ok (.aload_n 0, 1) := by decide +kernel
theorem dX10_isOpen_1 : decode prog_1_method_11_code 1 = .ok (.getfield 26, 3) := by decide +kernel
theorem dX10_isOpen_4 : decode prog_1_method_11_code 4 = .ok (.getfield 154, 3) := by decide +kernel
theorem dX10_isOpen_7 : decode prog_1_method_11_code 7 = .ok (.ifCond .eq 17, 3) := by decide +kernel
theorem dX10_isOpen_10 : decode prog_1_method_11_code 10 = .ok (.aload_n 0, 1) := by decide +kernel
theorem dX10_isOpen_11 : decode prog_1_method_11_code 11 = .ok (.getfield 26, 3) := by decide +kernel
theorem dX10_isOpen_14 : decode prog_1_method_11_code 14 = .ok (.getfield 80, 3) := by decide +kernel
theorem dX10_isOpen_17 : decode prog_1_method_11_code 17 = .ok (.ifCond .ne 7, 3) := by decide +kernel
theorem dX10_isOpen_20 : decode prog_1_method_11_code 20 = .ok (.iconst 1, 1) := by decide +kernel
theorem dX10_isOpen_21 : decode prog_1_method_11_code 21 = .ok (.goto 4, 3) := by decide +kernel
theorem dX10_isOpen_24 : decode prog_1_method_11_code 24 = .ok (.iconst 0, 1) := by decide +kernel
theorem dX10_isOpen_25 : decode prog_1_method_11_code 25 = .ok (.ireturn, 1) := by decide +kernel
theorem dX10_live_0 : decode prog_1_method_12_code 0 = .ok (.aload_n 0, 1) := by decide +kernel
theorem dX10_live_1 : decode prog_1_method_12_code 1 = .ok (.getfield 26, 3) := by decide +kernel
theorem dX10_live_4 : decode prog_1_method_12_code 4 = .ok (.getfield 80, 3) := by decide +kernel
theorem dX10_live_7 : decode prog_1_method_12_code 7 = .ok (.ifCond .eq 7, 3) := by decide +kernel
theorem dX10_live_10 : decode prog_1_method_12_code 10 = .ok (.iconst (-1), 1) := by decide +kernel
theorem dX10_live_11 : decode prog_1_method_12_code 11 = .ok (.goto 13, 3) := by decide +kernel
theorem dX10_live_14 : decode prog_1_method_12_code 14 = .ok (.aload_n 0, 1) := by decide +kernel
theorem dX10_live_15 : decode prog_1_method_12_code 15 = .ok (.getfield 26, 3) := by decide +kernel
theorem dX10_live_18 : decode prog_1_method_12_code 18 = .ok (.getfield 145, 3) := by decide +kernel
theorem dX10_live_21 : decode prog_1_method_12_code 21 = .ok (.getfield 149, 3) := by decide +kernel
theorem dX10_live_24 : decode prog_1_method_12_code 24 = .ok (.ireturn, 1) := by decide +kernel
theorem dX10_idAt_0 : decode prog_1_method_13_code 0 = .ok (.aload_n 0, 1) := by decide +kernel
theorem dX10_idAt_1 : decode prog_1_method_13_code 1 = .ok (.getfield 26, 3) := by decide +kernel
theorem dX10_idAt_4 : decode prog_1_method_13_code 4 = .ok (.getfield 80, 3) := by decide +kernel
theorem dX10_idAt_7 : decode prog_1_method_13_code 7 = .ok (.ifCond .ne 21, 3) := by decide +kernel
theorem dX10_idAt_10 : decode prog_1_method_13_code 10 = .ok (.iload_n 1, 1) := by decide +kernel
theorem dX10_idAt_11 : decode prog_1_method_13_code 11 = .ok (.ifCond .lt 17, 3) := by decide +kernel
theorem dX10_idAt_14 : decode prog_1_method_13_code 14 = .ok (.iload_n 1, 1) := by decide +kernel
theorem dX10_idAt_15 : decode prog_1_method_13_code 15 = .ok (.aload_n 0, 1) := by decide +kernel
theorem dX10_idAt_16 : decode prog_1_method_13_code 16 = .ok (.getfield 26, 3) := by decide +kernel
theorem dX10_idAt_19 : decode prog_1_method_13_code 19 = .ok (.getfield 145, 3) := by decide +kernel
theorem dX10_idAt_22 : decode prog_1_method_13_code 22 = .ok (.getfield 149, 3) := by decide +kernel
theorem dX10_idAt_25 : decode prog_1_method_13_code 25 = .ok (.if_icmp .lt 5, 3) := by decide +kernel
theorem dX10_idAt_28 : decode prog_1_method_13_code 28 = .ok (.iconst (-1), 1) := by decide +kernel
theorem dX10_idAt_29 : decode prog_1_method_13_code 29 = .ok (.ireturn, 1) := by decide +kernel
theorem dX10_idAt_30 : decode prog_1_method_13_code 30 = .ok (.aload_n 0, 1) := by decide +kernel
theorem dX10_idAt_31 : decode prog_1_method_13_code 31 = .ok (.getfield 26, 3) := by decide +kernel
theorem dX10_idAt_34 : decode prog_1_method_13_code 34 = .ok (.getfield 145, 3) := by decide +kernel
theorem dX10_idAt_37 : decode prog_1_method_13_code 37 = .ok (.getfield 157, 3) := by decide +kernel
theorem dX10_idAt_40 : decode prog_1_method_13_code 40 = .ok (.iload_n 1, 1) := by decide +kernel
theorem dX10_idAt_41 : decode prog_1_method_13_code 41 = .ok (.iaload, 1) := by decide +kernel
theorem dX10_idAt_42 : decode prog_1_method_13_code 42 = .ok (.ireturn, 1) := by decide +kernel
theorem dX10_kindOf_0 : decode prog_1_method_14_code 0 = .ok (.aload_n 0, 1) := by decide +kernel
theorem dX10_kindOf_1 : decode prog_1_method_14_code 1 = .ok (.iload_n 1, 1) := by decide +kernel
theorem dX10_kindOf_2 : decode prog_1_method_14_code 2 = .ok (.invokevirtual 160, 3) := by decide +kernel
theorem dX10_kindOf_5 : decode prog_1_method_14_code 5 = .ok (.astore_n 2, 1) := by decide +kernel
theorem dX10_kindOf_6 : decode prog_1_method_14_code 6 = .ok (.aload_n 2, 1) := by decide +kernel
theorem dX10_kindOf_7 : decode prog_1_method_14_code 7 = .ok (.ifnonnull 7, 3) := by decide +kernel
theorem dX10_kindOf_10 : decode prog_1_method_14_code 10 = .ok (.iconst (-1), 1) := by decide +kernel
theorem dX10_kindOf_11 : decode prog_1_method_14_code 11 = .ok (.goto 7, 3) := by decide +kernel
theorem dX10_kindOf_14 : decode prog_1_method_14_code 14 = .ok (.aload_n 2, 1) := by decide +kernel
theorem dX10_kindOf_15 : decode prog_1_method_14_code 15 = .ok (.getfield 164, 3) := by decide +kernel
theorem dX10_kindOf_18 : decode prog_1_method_14_code 18 = .ok (.ireturn, 1) := by decide +kernel
theorem dX10_places_0 : decode prog_1_method_15_code 0 = .ok (.aload_n 0, 1) := by decide +kernel
theorem dX10_places_1 : decode prog_1_method_15_code 1 = .ok (.iload_n 1, 1) := by decide +kernel
theorem dX10_places_2 : decode prog_1_method_15_code 2 = .ok (.invokevirtual 160, 3) := by decide +kernel
theorem dX10_places_5 : decode prog_1_method_15_code 5 = .ok (.astore_n 2, 1) := by decide +kernel
theorem dX10_places_6 : decode prog_1_method_15_code 6 = .ok (.aload_n 2, 1) := by decide +kernel
theorem dX10_places_7 : decode prog_1_method_15_code 7 = .ok (.ifnonnull 7, 3) := by decide +kernel
theorem dX10_places_10 : decode prog_1_method_15_code 10 = .ok (.iconst (-1), 1) := by decide +kernel
theorem dX10_places_11 : decode prog_1_method_15_code 11 = .ok (.goto 7, 3) := by decide +kernel
theorem dX10_places_14 : decode prog_1_method_15_code 14 = .ok (.aload_n 2, 1) := by decide +kernel
theorem dX10_places_15 : decode prog_1_method_15_code 15 = .ok (.getfield 169, 3) := by decide +kernel
theorem dX10_places_18 : decode prog_1_method_15_code 18 = .ok (.ireturn, 1) := by decide +kernel
theorem dX10_rings_0 : decode prog_1_method_16_code 0 = .ok (.aload_n 0, 1) := by decide +kernel
theorem dX10_rings_1 : decode prog_1_method_16_code 1 = .ok (.iload_n 1, 1) := by decide +kernel
theorem dX10_rings_2 : decode prog_1_method_16_code 2 = .ok (.invokevirtual 160, 3) := by decide +kernel
theorem dX10_rings_5 : decode prog_1_method_16_code 5 = .ok (.astore_n 2, 1) := by decide +kernel
theorem dX10_rings_6 : decode prog_1_method_16_code 6 = .ok (.aload_n 2, 1) := by decide +kernel
theorem dX10_rings_7 : decode prog_1_method_16_code 7 = .ok (.ifnonnull 7, 3) := by decide +kernel
theorem dX10_rings_10 : decode prog_1_method_16_code 10 = .ok (.iconst (-1), 1) := by decide +kernel
theorem dX10_rings_11 : decode prog_1_method_16_code 11 = .ok (.goto 7, 3) := by decide +kernel
theorem dX10_rings_14 : decode prog_1_method_16_code 14 = .ok (.aload_n 2, 1) := by decide +kernel
theorem dX10_rings_15 : decode prog_1_method_16_code 15 = .ok (.getfield 170, 3) := by decide +kernel
theorem dX10_rings_18 : decode prog_1_method_16_code 18 = .ok (.ireturn, 1) := by decide +kernel
theorem dX10_at_0 : decode prog_1_method_17_code 0 = .ok (.aload_n 0, 1) := by decide +kernel
theorem dX10_at_1 : decode prog_1_method_17_code 1 = .ok (.iload_n 1, 1) := by decide +kernel
theorem dX10_at_2 : decode prog_1_method_17_code 2 = .ok (.invokevirtual 160, 3) := by decide +kernel
theorem dX10_at_5 : decode prog_1_method_17_code 5 = .ok (.astore 4, 2) := by decide +kernel
theorem dX10_at_7 : decode prog_1_method_17_code 7 = .ok (.aload 4, 2) := by decide +kernel
theorem dX10_at_9 : decode prog_1_method_17_code 9 = .ok (.ifnull 25, 3) := by decide +kernel
theorem dX10_at_12 : decode prog_1_method_17_code 12 = .ok (.iload_n 2, 1) := by decide +kernel
theorem dX10_at_13 : decode prog_1_method_17_code 13 = .ok (.ifCond .lt 21, 3) := by decide +kernel
theorem dX10_at_16 : decode prog_1_method_17_code 16 = .ok (.iload_n 2, 1) := by decide +kernel
theorem dX10_at_17 : decode prog_1_method_17_code 17 = .ok (.aload 4, 2) := by decide +kernel
theorem dX10_at_19 : decode prog_1_method_17_code 19 = .ok (.getfield 169, 3) := by decide +kernel
theorem dX10_at_22 : decode prog_1_method_17_code 22 = .ok (.if_icmp .ge 12, 3) := by decide +kernel
theorem dX10_at_25 : decode prog_1_method_17_code 25 = .ok (.iload_n 3, 1) := by decide +kernel
theorem dX10_at_26 : decode prog_1_method_17_code 26 = .ok (.ifCond .lt 8, 3) := by decide +kernel
theorem dX10_at_29 : decode prog_1_method_17_code 29 = .ok (.iload_n 3, 1) := by decide +kernel
theorem dX10_at_30 : decode prog_1_method_17_code 30 = .ok (.iconst 1, 1) := by decide +kernel
theorem dX10_at_31 : decode prog_1_method_17_code 31 = .ok (.if_icmp .le 5, 3) := by decide +kernel
theorem dX10_at_34 : decode prog_1_method_17_code 34 = .ok (.iconst 0, 1) := by decide +kernel
theorem dX10_at_35 : decode prog_1_method_17_code 35 = .ok (.ireturn, 1) := by decide +kernel
theorem dX10_at_36 : decode prog_1_method_17_code 36 = .ok (.iload_n 3, 1) := by decide +kernel
theorem dX10_at_37 : decode prog_1_method_17_code 37 = .ok (.ifCond .ne 13, 3) := by decide +kernel
theorem dX10_at_40 : decode prog_1_method_17_code 40 = .ok (.aload 4, 2) := by decide +kernel
theorem dX10_at_42 : decode prog_1_method_17_code 42 = .ok (.getfield 173, 3) := by decide +kernel
theorem dX10_at_45 : decode prog_1_method_17_code 45 = .ok (.iload_n 2, 1) := by decide +kernel
theorem dX10_at_46 : decode prog_1_method_17_code 46 = .ok (.iaload, 1) := by decide +kernel
theorem dX10_at_47 : decode prog_1_method_17_code 47 = .ok (.goto 10, 3) := by decide +kernel
theorem dX10_at_50 : decode prog_1_method_17_code 50 = .ok (.aload 4, 2) := by decide +kernel
theorem dX10_at_52 : decode prog_1_method_17_code 52 = .ok (.getfield 176, 3) := by decide +kernel
theorem dX10_at_55 : decode prog_1_method_17_code 55 = .ok (.iload_n 2, 1) := by decide +kernel
theorem dX10_at_56 : decode prog_1_method_17_code 56 = .ok (.iaload, 1) := by decide +kernel
theorem dX10_at_57 : decode prog_1_method_17_code 57 = .ok (.ireturn, 1) := by decide +kernel
theorem dX10_relate_0 : decode prog_1_method_18_code 0 = .ok (.aload_n 0, 1) := by decide +kernel
theorem dX10_relate_1 : decode prog_1_method_18_code 1 = .ok (.iload_n 2, 1) := by decide +kernel
theorem dX10_relate_2 : decode prog_1_method_18_code 2 = .ok (.invokevirtual 160, 3) := by decide +kernel
theorem dX10_relate_5 : decode prog_1_method_18_code 5 = .ok (.astore 4, 2) := by decide +kernel
theorem dX10_relate_7 : decode prog_1_method_18_code 7 = .ok (.aload_n 0, 1) := by decide +kernel
theorem dX10_relate_8 : decode prog_1_method_18_code 8 = .ok (.iload_n 3, 1) := by decide +kernel
theorem dX10_relate_9 : decode prog_1_method_18_code 9 = .ok (.invokevirtual 160, 3) := by decide +kernel
theorem dX10_relate_12 : decode prog_1_method_18_code 12 = .ok (.astore 5, 2) := by decide +kernel
theorem dX10_relate_14 : decode prog_1_method_18_code 14 = .ok (.aload 4, 2) := by decide +kernel
theorem dX10_relate_16 : decode prog_1_method_18_code 16 = .ok (.ifnull 17, 3) := by decide +kernel
theorem dX10_relate_19 : decode prog_1_method_18_code 19 = .ok (.aload 5, 2) := by decide +kernel
theorem dX10_relate_21 : decode prog_1_method_18_code 21 = .ok (.ifnull 12, 3) := by decide +kernel
theorem dX10_relate_24 : decode prog_1_method_18_code 24 = .ok (.iload_n 1, 1) := by decide +kernel
theorem dX10_relate_25 : decode prog_1_method_18_code 25 = .ok (.ifCond .lt 8, 3) := by decide +kernel
theorem dX10_relate_28 : decode prog_1_method_18_code 28 = .ok (.iload_n 1, 1) := by decide +kernel
theorem dX10_relate_29 : decode prog_1_method_18_code 29 = .ok (.iconst 4, 1) := by decide +kernel
theorem dX10_relate_30 : decode prog_1_method_18_code 30 = .ok (.if_icmp .le 5, 3) := by decide +kernel
theorem dX10_relate_33 : decode prog_1_method_18_code 33 = .ok (.iconst (-1), 1) := by decide +kernel
theorem dX10_relate_34 : decode prog_1_method_18_code 34 = .ok (.ireturn, 1) := by decide +kernel
theorem dX10_relate_35 : decode prog_1_method_18_code 35 = .ok (.aload_n 0, 1) := by decide +kernel
theorem dX10_relate_36 : decode prog_1_method_18_code 36 = .ok (.getfield 45, 3) := by decide +kernel
theorem dX10_relate_39 : decode prog_1_method_18_code 39 = .ok (.iload_n 1, 1) := by decide +kernel
theorem dX10_relate_40 : decode prog_1_method_18_code 40 = .ok (.aload 4, 2) := by decide +kernel
theorem dX10_relate_42 : decode prog_1_method_18_code 42 = .ok (.aload 5, 2) := by decide +kernel
