theorem dX10_relate_44 : decode prog_1_method_18_code 44 = .ok (.invokevirtual 179, 3) := by decide +kernel
theorem dX10_relate_47 : decode prog_1_method_18_code 47 = .ok (.ifCond .eq 7, 3) := by decide +kernel
theorem dX10_relate_50 : decode prog_1_method_18_code 50 = .ok (.iconst 1, 1) := by decide +kernel
theorem dX10_relate_51 : decode prog_1_method_18_code 51 = .ok (.goto 4, 3) := by decide +kernel
theorem dX10_relate_54 : decode prog_1_method_18_code 54 = .ok (.iconst 0, 1) := by decide +kernel
theorem dX10_relate_55 : decode prog_1_method_18_code 55 = .ok (.ireturn, 1) := by decide +kernel
theorem dX10_nearer_0 : decode prog_1_method_19_code 0 = .ok (.aload_n 0, 1) := by decide +kernel
theorem dX10_nearer_1 : decode prog_1_method_19_code 1 = .ok (.iload_n 1, 1) := by decide +kernel
theorem dX10_nearer_2 : decode prog_1_method_19_code 2 = .ok (.invokevirtual 160, 3) := by decide +kernel
theorem dX10_nearer_5 : decode prog_1_method_19_code 5 = .ok (.astore 5, 2) := by decide +kernel
theorem dX10_nearer_7 : decode prog_1_method_19_code 7 = .ok (.aload_n 0, 1) := by decide +kernel
theorem dX10_nearer_8 : decode prog_1_method_19_code 8 = .ok (.iload_n 2, 1) := by decide +kernel
theorem dX10_nearer_9 : decode prog_1_method_19_code 9 = .ok (.invokevirtual 160, 3) := by decide +kernel
theorem dX10_nearer_12 : decode prog_1_method_19_code 12 = .ok (.astore 6, 2) := by decide +kernel
theorem dX10_nearer_14 : decode prog_1_method_19_code 14 = .ok (.aload 5, 2) := by decide +kernel
theorem dX10_nearer_16 : decode prog_1_method_19_code 16 = .ok (.ifnull 25, 3) := by decide +kernel
theorem dX10_nearer_19 : decode prog_1_method_19_code 19 = .ok (.aload 6, 2) := by decide +kernel
theorem dX10_nearer_21 : decode prog_1_method_19_code 21 = .ok (.ifnull 20, 3) := by decide +kernel
theorem dX10_nearer_24 : decode prog_1_method_19_code 24 = .ok (.iload_n 3, 1) := by decide +kernel
theorem dX10_nearer_25 : decode prog_1_method_19_code 25 = .ok (.i2l, 1) := by decide +kernel
theorem dX10_nearer_26 : decode prog_1_method_19_code 26 = .ok (.invokestatic 183, 3) := by decide +kernel
theorem dX10_nearer_29 : decode prog_1_method_19_code 29 = .ok (.ifCond .eq 12, 3) := by decide +kernel
theorem dX10_nearer_32 : decode prog_1_method_19_code 32 = .ok (.iload 4, 2) := by decide +kernel
theorem dX10_nearer_34 : decode prog_1_method_19_code 34 = .ok (.i2l, 1) := by decide +kernel
theorem dX10_nearer_35 : decode prog_1_method_19_code 35 = .ok (.invokestatic 183, 3) := by decide +kernel
theorem dX10_nearer_38 : decode prog_1_method_19_code 38 = .ok (.ifCond .ne 6, 3) := by decide +kernel
theorem dX10_nearer_41 : decode prog_1_method_19_code 41 = .ok (.bipush (-2), 2) := by decide +kernel
theorem dX10_nearer_43 : decode prog_1_method_19_code 43 = .ok (.ireturn, 1) := by decide +kernel
theorem dX10_nearer_44 : decode prog_1_method_19_code 44 = .ok (.aload_n 0, 1) := by decide +kernel
theorem dX10_nearer_45 : decode prog_1_method_19_code 45 = .ok (.getfield 51, 3) := by decide +kernel
theorem dX10_nearer_48 : decode prog_1_method_19_code 48 = .ok (.iconst 0, 1) := by decide +kernel
theorem dX10_nearer_49 : decode prog_1_method_19_code 49 = .ok (.aaload, 1) := by decide +kernel
theorem dX10_nearer_50 : decode prog_1_method_19_code 50 = .ok (.aload 5, 2) := by decide +kernel
theorem dX10_nearer_52 : decode prog_1_method_19_code 52 = .ok (.iload_n 3, 1) := by decide +kernel
theorem dX10_nearer_53 : decode prog_1_method_19_code 53 = .ok (.iload 4, 2) := by decide +kernel
theorem dX10_nearer_55 : decode prog_1_method_19_code 55 = .ok (.invokevirtual 187, 3) := by decide +kernel
theorem dX10_nearer_58 : decode prog_1_method_19_code 58 = .ok (.aload_n 0, 1) := by decide +kernel
theorem dX10_nearer_59 : decode prog_1_method_19_code 59 = .ok (.getfield 51, 3) := by decide +kernel
theorem dX10_nearer_62 : decode prog_1_method_19_code 62 = .ok (.iconst 1, 1) := by decide +kernel
theorem dX10_nearer_63 : decode prog_1_method_19_code 63 = .ok (.aaload, 1) := by decide +kernel
theorem dX10_nearer_64 : decode prog_1_method_19_code 64 = .ok (.aload 6, 2) := by decide +kernel
theorem dX10_nearer_66 : decode prog_1_method_19_code 66 = .ok (.iload_n 3, 1) := by decide +kernel
theorem dX10_nearer_67 : decode prog_1_method_19_code 67 = .ok (.iload 4, 2) := by decide +kernel
theorem dX10_nearer_69 : decode prog_1_method_19_code 69 = .ok (.invokevirtual 187, 3) := by decide +kernel
theorem dX10_nearer_72 : decode prog_1_method_19_code 72 = .ok (.aload_n 0, 1) := by decide +kernel
theorem dX10_nearer_73 : decode prog_1_method_19_code 73 = .ok (.getfield 51, 3) := by decide +kernel
theorem dX10_nearer_76 : decode prog_1_method_19_code 76 = .ok (.iconst 0, 1) := by decide +kernel
theorem dX10_nearer_77 : decode prog_1_method_19_code 77 = .ok (.aaload, 1) := by decide +kernel
theorem dX10_nearer_78 : decode prog_1_method_19_code 78 = .ok (.aload_n 0, 1) := by decide +kernel
theorem dX10_nearer_79 : decode prog_1_method_19_code 79 = .ok (.getfield 51, 3) := by decide +kernel
theorem dX10_nearer_82 : decode prog_1_method_19_code 82 = .ok (.iconst 1, 1) := by decide +kernel
theorem dX10_nearer_83 : decode prog_1_method_19_code 83 = .ok (.aaload, 1) := by decide +kernel
theorem dX10_nearer_84 : decode prog_1_method_19_code 84 = .ok (.invokevirtual 191, 3) := by decide +kernel
theorem dX10_nearer_87 : decode prog_1_method_19_code 87 = .ok (.ireturn, 1) := by decide +kernel
theorem dX10_used_0 : decode prog_1_method_20_code 0 = .ok (.aload_n 0, 1) := by decide +kernel
theorem dX10_used_1 : decode prog_1_method_20_code 1 = .ok (.getfield 26, 3) := by decide +kernel
theorem dX10_used_4 : decode prog_1_method_20_code 4 = .ok (.getfield 80, 3) := by decide +kernel
theorem dX10_used_7 : decode prog_1_method_20_code 7 = .ok (.ifCond .eq 7, 3) := by decide +kernel
theorem dX10_used_10 : decode prog_1_method_20_code 10 = .ok (.iconst (-1), 1) := by decide +kernel
theorem dX10_used_11 : decode prog_1_method_20_code 11 = .ok (.goto 10, 3) := by decide +kernel
theorem dX10_used_14 : decode prog_1_method_20_code 14 = .ok (.aload_n 0, 1) := by decide +kernel
theorem dX10_used_15 : decode prog_1_method_20_code 15 = .ok (.getfield 26, 3) := by decide +kernel
theorem dX10_used_18 : decode prog_1_method_20_code 18 = .ok (.getfield 195, 3) := by decide +kernel
theorem dX10_used_21 : decode prog_1_method_20_code 21 = .ok (.ireturn, 1) := by decide +kernel
theorem dX10_saves_0 : decode prog_1_method_21_code 0 = .ok (.aload_n 0, 1) := by decide +kernel
theorem dX10_saves_1 : decode prog_1_method_21_code 1 = .ok (.getfield 26, 3) := by decide +kernel
theorem dX10_saves_4 : decode prog_1_method_21_code 4 = .ok (.getfield 198, 3) := by decide +kernel
theorem dX10_saves_7 : decode prog_1_method_21_code 7 = .ok (.ireturn, 1) := by decide +kernel
theorem dX10_flaws_0 : decode prog_1_method_22_code 0 = .ok (.aload_n 0, 1) := by decide +kernel
theorem dX10_flaws_1 : decode prog_1_method_22_code 1 = .ok (.getfield 26, 3) := by decide +kernel
theorem dX10_flaws_4 : decode prog_1_method_22_code 4 = .ok (.invokevirtual 201, 3) := by decide +kernel
theorem dX10_flaws_7 : decode prog_1_method_22_code 7 = .ok (.ireturn, 1) := by decide +kernel
theorem dX10_isInPlane_0 : decode prog_1_method_23_code 0 = .ok (.lload_n 0, 1) := by decide +kernel
theorem dX10_isInPlane_1 : decode prog_1_method_23_code 1 = .ok (.ldc2_w 204, 3) := by decide +kernel
theorem dX10_isInPlane_4 : decode prog_1_method_23_code 4 = .ok (.lcmp, 1) := by decide +kernel
theorem dX10_isInPlane_5 : decode prog_1_method_23_code 5 = .ok (.ifCond .lt 15, 3) := by decide +kernel
theorem dX10_isInPlane_8 : decode prog_1_method_23_code 8 = .ok (.lload_n 0, 1) := by decide +kernel
theorem dX10_isInPlane_9 : decode prog_1_method_23_code 9 = .ok (.ldc2_w 206, 3) := by decide +kernel
theorem dX10_isInPlane_12 : decode prog_1_method_23_code 12 = .ok (.lcmp, 1) := by decide +kernel
theorem dX10_isInPlane_13 : decode prog_1_method_23_code 13 = .ok (.ifCond .gt 7, 3) := by decide +kernel
theorem dX10_isInPlane_16 : decode prog_1_method_23_code 16 = .ok (.iconst 1, 1) := by decide +kernel
theorem dX10_isInPlane_17 : decode prog_1_method_23_code 17 = .ok (.goto 4, 3) := by decide +kernel
theorem dX10_isInPlane_20 : decode prog_1_method_23_code 20 = .ok (.iconst 0, 1) := by decide +kernel
theorem dX10_isInPlane_21 : decode prog_1_method_23_code 21 = .ok (.ireturn, 1) := by decide +kernel
theorem dX10_shapeOf_0 : decode prog_1_method_24_code 0 = .ok (.aload_n 0, 1) := by decide +kernel
theorem dX10_shapeOf_1 : decode prog_1_method_24_code 1 = .ok (.getfield 26, 3) := by decide +kernel
theorem dX10_shapeOf_4 : decode prog_1_method_24_code 4 = .ok (.getfield 80, 3) := by decide +kernel
theorem dX10_shapeOf_7 : decode prog_1_method_24_code 7 = .ok (.ifCond .eq 7, 3) := by decide +kernel
theorem dX10_shapeOf_10 : decode prog_1_method_24_code 10 = .ok (.aconst_null, 1) := by decide +kernel
theorem dX10_shapeOf_11 : decode prog_1_method_24_code 11 = .ok (.goto 14, 3) := by decide +kernel
theorem dX10_shapeOf_14 : decode prog_1_method_24_code 14 = .ok (.aload_n 0, 1) := by decide +kernel
theorem dX10_shapeOf_15 : decode prog_1_method_24_code 15 = .ok (.getfield 26, 3) := by decide +kernel
theorem dX10_shapeOf_18 : decode prog_1_method_24_code 18 = .ok (.getfield 145, 3) := by decide +kernel
theorem dX10_shapeOf_21 : decode prog_1_method_24_code 21 = .ok (.iload_n 1, 1) := by decide +kernel
theorem dX10_shapeOf_22 : decode prog_1_method_24_code 22 = .ok (.invokevirtual 208, 3) := by decide +kernel
theorem dX10_shapeOf_25 : decode prog_1_method_24_code 25 = .ok (.areturn, 1) := by decide +kernel
theorem dX10_putAnswer_0 : decode prog_1_method_25_code 0 = .ok (.aload_n 0, 1) := by decide +kernel
theorem dX10_putAnswer_1 : decode prog_1_method_25_code 1 = .ok (.getfield 19, 3) := by decide +kernel
theorem dX10_putAnswer_4 : decode prog_1_method_25_code 4 = .ok (.getfield 97, 3) := by decide +kernel
theorem dX10_putAnswer_7 : decode prog_1_method_25_code 7 = .ok (.bipush 9, 2) := by decide +kernel
theorem dX10_putAnswer_9 : decode prog_1_method_25_code 9 = .ok (.if_icmp .lt 7, 3) := by decide +kernel
theorem dX10_putAnswer_12 : decode prog_1_method_25_code 12 = .ok (.iload_n 1, 1) := by decide +kernel
theorem dX10_putAnswer_13 : decode prog_1_method_25_code 13 = .ok (.ifCond .eq 9, 3) := by decide +kernel
theorem dX10_putAnswer_16 : decode prog_1_method_25_code 16 = .ok (.aload_n 0, 1) := by decide +kernel
theorem dX10_putAnswer_17 : decode prog_1_method_25_code 17 = .ok (.iload_n 1, 1) := by decide +kernel
theorem dX10_putAnswer_18 : decode prog_1_method_25_code 18 = .ok (.invokevirtual 211, 3) := by decide +kernel
theorem dX10_putAnswer_21 : decode prog_1_method_25_code 21 = .ok (.return_, 1) := by decide +kernel
theorem dX10_putAnswer_22 : decode prog_1_method_25_code 22 = .ok (.aload_n 0, 1) := by decide +kernel
theorem dX10_putAnswer_23 : decode prog_1_method_25_code 23 = .ok (.getfield 63, 3) := by decide +kernel
theorem dX10_putAnswer_26 : decode prog_1_method_25_code 26 = .ok (.iconst 2, 1) := by decide +kernel
theorem dX10_putAnswer_27 : decode prog_1_method_25_code 27 = .ok (.iadd, 1) := by decide +kernel
theorem dX10_putAnswer_28 : decode prog_1_method_25_code 28 = .ok (.aload_n 0, 1) := by decide +kernel
theorem dX10_putAnswer_29 : decode prog_1_method_25_code 29 = .ok (.getfield 67, 3) := by decide +kernel
theorem dX10_putAnswer_32 : decode prog_1_method_25_code 32 = .ok (.iadd, 1) := by decide +kernel
theorem dX10_putAnswer_33 : decode prog_1_method_25_code 33 = .ok (.istore_n 2, 1) := by decide +kernel
theorem dX10_putAnswer_34 : decode prog_1_method_25_code 34 = .ok (.iload_n 2, 1) := by decide +kernel
theorem dX10_putAnswer_35 : decode prog_1_method_25_code 35 = .ok (.sipush 19000, 3) := by decide +kernel
theorem dX10_putAnswer_38 : decode prog_1_method_25_code 38 = .ok (.if_icmp .le 10, 3) := by decide +kernel
theorem dX10_putAnswer_41 : decode prog_1_method_25_code 41 = .ok (.aload_n 0, 1) := by decide +kernel
theorem dX10_putAnswer_42 : decode prog_1_method_25_code 42 = .ok (.bipush 7, 2) := by decide +kernel
theorem dX10_putAnswer_44 : decode prog_1_method_25_code 44 = .ok (.invokevirtual 211, 3) := by decide +kernel
theorem dX10_putAnswer_47 : decode prog_1_method_25_code 47 = .ok (.return_, 1) := by decide +kernel
theorem dX10_putAnswer_48 : decode prog_1_method_25_code 48 = .ok (.aload_n 0, 1) := by decide +kernel
theorem dX10_putAnswer_49 : decode prog_1_method_25_code 49 = .ok (.iconst 0, 1) := by decide +kernel
theorem dX10_putAnswer_50 : decode prog_1_method_25_code 50 = .ok (.invokevirtual 211, 3) := by decide +kernel
theorem dX10_putAnswer_53 : decode prog_1_method_25_code 53 = .ok (.aload_n 0, 1) := by decide +kernel
theorem dX10_putAnswer_54 : decode prog_1_method_25_code 54 = .ok (.aload_n 0, 1) := by decide +kernel
theorem dX10_putAnswer_55 : decode prog_1_method_25_code 55 = .ok (.getfield 19, 3) := by decide +kernel
theorem dX10_putAnswer_58 : decode prog_1_method_25_code 58 = .ok (.getfield 97, 3) := by decide +kernel
theorem dX10_putAnswer_61 : decode prog_1_method_25_code 61 = .ok (.bipush 12, 2) := by decide +kernel
theorem dX10_putAnswer_63 : decode prog_1_method_25_code 63 = .ok (.if_icmp .ne 12, 3) := by decide +kernel
theorem dX10_putAnswer_66 : decode prog_1_method_25_code 66 = .ok (.aload_n 0, 1) := by decide +kernel
theorem dX10_putAnswer_67 : decode prog_1_method_25_code 67 = .ok (.getfield 67, 3) := by decide +kernel
theorem dX10_putAnswer_70 : decode prog_1_method_25_code 70 = .ok (.iconst 2, 1) := by decide +kernel
theorem dX10_putAnswer_71 : decode prog_1_method_25_code 71 = .ok (.idiv, 1) := by decide +kernel
theorem dX10_putAnswer_72 : decode prog_1_method_25_code 72 = .ok (.goto 7, 3) := by decide +kernel
theorem dX10_putAnswer_75 : decode prog_1_method_25_code 75 = .ok (.aload_n 0, 1) := by decide +kernel
theorem dX10_putAnswer_76 : decode prog_1_method_25_code 76 = .ok (.getfield 67, 3) := by decide +kernel
theorem dX10_putAnswer_79 : decode prog_1_method_25_code 79 = .ok (.invokevirtual 211, 3) := by decide +kernel
theorem dX10_putAnswer_82 : decode prog_1_method_25_code 82 = .ok (.aload_n 0, 1) := by decide +kernel
theorem dX10_putAnswer_83 : decode prog_1_method_25_code 83 = .ok (.iload_n 2, 1) := by decide +kernel
theorem dX10_putAnswer_84 : decode prog_1_method_25_code 84 = .ok (.putfield 63, 3) := by decide +kernel
theorem dX10_putAnswer_87 : decode prog_1_method_25_code 87 = .ok (.return_, 1) := by decide +kernel
theorem dX10_putInt_0 : decode prog_1_method_26_code 0 = .ok (.aload_n 0, 1) := by decide +kernel
theorem dX10_putInt_1 : decode prog_1_method_26_code 1 = .ok (.getfield 63, 3) := by decide +kernel
theorem dX10_putInt_4 : decode prog_1_method_26_code 4 = .ok (.sipush 20000, 3) := by decide +kernel
theorem dX10_putInt_7 : decode prog_1_method_26_code 7 = .ok (.if_icmp .ge 23, 3) := by decide +kernel
theorem dX10_putInt_10 : decode prog_1_method_26_code 10 = .ok (.aload_n 0, 1) := by decide +kernel
theorem dX10_putInt_11 : decode prog_1_method_26_code 11 = .ok (.getfield 60, 3) := by decide +kernel
theorem dX10_putInt_14 : decode prog_1_method_26_code 14 = .ok (.aload_n 0, 1) := by decide +kernel
theorem dX10_putInt_15 : decode prog_1_method_26_code 15 = .ok (.getfield 63, 3) := by decide +kernel
theorem dX10_putInt_18 : decode prog_1_method_26_code 18 = .ok (.iload_n 1, 1) := by decide +kernel
theorem dX10_putInt_19 : decode prog_1_method_26_code 19 = .ok (.iastore, 1) := by decide +kernel
theorem dX10_putInt_20 : decode prog_1_method_26_code 20 = .ok (.aload_n 0, 1) := by decide +kernel
theorem dX10_putInt_21 : decode prog_1_method_26_code 21 = .ok (.dup, 1) := by decide +kernel
theorem dX10_putInt_22 : decode prog_1_method_26_code 22 = .ok (.getfield 63, 3) := by decide +kernel
theorem dX10_putInt_25 : decode prog_1_method_26_code 25 = .ok (.iconst 1, 1) := by decide +kernel
theorem dX10_putInt_26 : decode prog_1_method_26_code 26 = .ok (.iadd, 1) := by decide +kernel
theorem dX10_putInt_27 : decode prog_1_method_26_code 27 = .ok (.putfield 63, 3) := by decide +kernel
theorem dX10_putInt_30 : decode prog_1_method_26_code 30 = .ok (.return_, 1) := by decide +kernel
theorem dX10_offer_0 : decode prog_1_method_27_code 0 = .ok (.aload_n 0, 1) := by decide +kernel
theorem dX10_offer_1 : decode prog_1_method_27_code 1 = .ok (.getfield 63, 3) := by decide +kernel
theorem dX10_offer_4 : decode prog_1_method_27_code 4 = .ok (.iconst 2, 1) := by decide +kernel
theorem dX10_offer_5 : decode prog_1_method_27_code 5 = .ok (.iadd, 1) := by decide +kernel
theorem dX10_offer_6 : decode prog_1_method_27_code 6 = .ok (.aload_n 0, 1) := by decide +kernel
theorem dX10_offer_7 : decode prog_1_method_27_code 7 = .ok (.getfield 67, 3) := by decide +kernel
theorem dX10_offer_10 : decode prog_1_method_27_code 10 = .ok (.iadd, 1) := by decide +kernel
theorem dX10_offer_11 : decode prog_1_method_27_code 11 = .ok (.istore_n 2, 1) := by decide +kernel
theorem dX10_offer_12 : decode prog_1_method_27_code 12 = .ok (.iload_n 2, 1) := by decide +kernel
theorem dX10_offer_13 : decode prog_1_method_27_code 13 = .ok (.sipush 19000, 3) := by decide +kernel
theorem dX10_offer_16 : decode prog_1_method_27_code 16 = .ok (.if_icmp .ge 10, 3) := by decide +kernel
theorem dX10_offer_19 : decode prog_1_method_27_code 19 = .ok (.aload_n 0, 1) := by decide +kernel
theorem dX10_offer_20 : decode prog_1_method_27_code 20 = .ok (.getfield 60, 3) := by decide +kernel
theorem dX10_offer_23 : decode prog_1_method_27_code 23 = .ok (.iload_n 2, 1) := by decide +kernel
theorem dX10_offer_24 : decode prog_1_method_27_code 24 = .ok (.iload_n 1, 1) := by decide +kernel
theorem dX10_offer_25 : decode prog_1_method_27_code 25 = .ok (.iastore, 1) := by decide +kernel
theorem dX10_offer_26 : decode prog_1_method_27_code 26 = .ok (.aload_n 0, 1) := by decide +kernel
theorem dX10_offer_27 : decode prog_1_method_27_code 27 = .ok (.dup, 1) := by decide +kernel
theorem dX10_offer_28 : decode prog_1_method_27_code 28 = .ok (.getfield 67, 3) := by decide +kernel
theorem dX10_offer_31 : decode prog_1_method_27_code 31 = .ok (.iconst 1, 1) := by decide +kernel
theorem dX10_offer_32 : decode prog_1_method_27_code 32 = .ok (.iadd, 1) := by decide +kernel
theorem dX10_offer_33 : decode prog_1_method_27_code 33 = .ok (.putfield 67, 3) := by decide +kernel
theorem dX10_offer_36 : decode prog_1_method_27_code 36 = .ok (.return_, 1) := by decide +kernel
theorem dX10_add_0 : decode prog_1_method_28_code 0 = .ok (.aload_n 0, 1) := by decide +kernel
theorem dX10_add_1 : decode prog_1_method_28_code 1 = .ok (.getfield 19, 3) := by decide +kernel
theorem dX10_add_4 : decode prog_1_method_28_code 4 = .ok (.getfield 214, 3) := by decide +kernel
theorem dX10_add_7 : decode prog_1_method_28_code 7 = .ok (.iconst 0, 1) := by decide +kernel
theorem dX10_add_8 : decode prog_1_method_28_code 8 = .ok (.iaload, 1) := by decide +kernel
theorem dX10_add_9 : decode prog_1_method_28_code 9 = .ok (.istore_n 1, 1) := by decide +kernel
theorem dX10_add_10 : decode prog_1_method_28_code 10 = .ok (.aload_n 0, 1) := by decide +kernel
theorem dX10_add_11 : decode prog_1_method_28_code 11 = .ok (.getfield 19, 3) := by decide +kernel
theorem dX10_add_14 : decode prog_1_method_28_code 14 = .ok (.getfield 217, 3) := by decide +kernel
theorem dX10_add_17 : decode prog_1_method_28_code 17 = .ok (.astore_n 2, 1) := by decide +kernel
theorem dX10_add_18 : decode prog_1_method_28_code 18 = .ok (.iload_n 1, 1) := by decide +kernel
theorem dX10_add_19 : decode prog_1_method_28_code 19 = .ok (.iconst 1, 1) := by decide +kernel
theorem dX10_add_20 : decode prog_1_method_28_code 20 = .ok (.if_icmp .lt 10, 3) := by decide +kernel
theorem dX10_add_23 : decode prog_1_method_28_code 23 = .ok (.iload_n 1, 1) := by decide +kernel
theorem dX10_add_24 : decode prog_1_method_28_code 24 = .ok (.sipush 9999, 3) := by decide +kernel
theorem dX10_add_27 : decode prog_1_method_28_code 27 = .ok (.if_icmp .le 5, 3) := by decide +kernel
theorem dX10_add_30 : decode prog_1_method_28_code 30 = .ok (.iconst 5, 1) := by decide +kernel
theorem dX10_add_31 : decode prog_1_method_28_code 31 = .ok (.ireturn, 1) := by decide +kernel
theorem dX10_add_32 : decode prog_1_method_28_code 32 = .ok (.aload_n 0, 1) := by decide +kernel
theorem dX10_add_33 : decode prog_1_method_28_code 33 = .ok (.getfield 26, 3) := by decide +kernel
theorem dX10_add_36 : decode prog_1_method_28_code 36 = .ok (.getfield 145, 3) := by decide +kernel
theorem dX10_add_39 : decode prog_1_method_28_code 39 = .ok (.iload_n 1, 1) := by decide +kernel
theorem dX10_add_40 : decode prog_1_method_28_code 40 = .ok (.invokevirtual 221, 3) := by decide +kernel
theorem dX10_add_43 : decode prog_1_method_28_code 43 = .ok (.ifCond .lt 5, 3) := by decide +kernel
theorem dX10_add_46 : decode prog_1_method_28_code 46 = .ok (.iconst 1, 1) := by decide +kernel
theorem dX10_add_47 : decode prog_1_method_28_code 47 = .ok (.ireturn, 1) := by decide +kernel
theorem dX10_add_48 : decode prog_1_method_28_code 48 = .ok (.aload_n 2, 1) := by decide +kernel
theorem dX10_add_49 : decode prog_1_method_28_code 49 = .ok (.getfield 224, 3) := by decide +kernel
theorem dX10_add_52 : decode prog_1_method_28_code 52 = .ok (.ifCond .eq 5, 3) := by decide +kernel
theorem dX10_add_55 : decode prog_1_method_28_code 55 = .ok (.iconst 4, 1) := by decide +kernel
theorem dX10_add_56 : decode prog_1_method_28_code 56 = .ok (.ireturn, 1) := by decide +kernel
theorem dX10_add_57 : decode prog_1_method_28_code 57 = .ok (.aload_n 0, 1) := by decide +kernel
theorem dX10_add_58 : decode prog_1_method_28_code 58 = .ok (.getfield 38, 3) := by decide +kernel
theorem dX10_add_61 : decode prog_1_method_28_code 61 = .ok (.aload_n 2, 1) := by decide +kernel
theorem dX10_add_62 : decode prog_1_method_28_code 62 = .ok (.invokevirtual 227, 3) := by decide +kernel
theorem dX10_add_65 : decode prog_1_method_28_code 65 = .ok (.ifCond .ne 5, 3) := by decide +kernel
theorem dX10_add_68 : decode prog_1_method_28_code 68 = .ok (.iconst 3, 1) := by decide +kernel
theorem dX10_add_69 : decode prog_1_method_28_code 69 = .ok (.ireturn, 1) := by decide +kernel
theorem dX10_add_70 : decode prog_1_method_28_code 70 = .ok (.bipush 16, 2) := by decide +kernel
theorem dX10_add_72 : decode prog_1_method_28_code 72 = .ok (.iconst 4, 1) := by decide +kernel
theorem dX10_add_73 : decode prog_1_method_28_code 73 = .ok (.aload_n 2, 1) := by decide +kernel
theorem dX10_add_74 : decode prog_1_method_28_code 74 = .ok (.getfield 170, 3) := by decide +kernel
theorem dX10_add_77 : decode prog_1_method_28_code 77 = .ok (.imul, 1) := by decide +kernel
theorem dX10_add_78 : decode prog_1_method_28_code 78 = .ok (.iadd, 1) := by decide +kernel
theorem dX10_add_79 : decode prog_1_method_28_code 79 = .ok (.bipush 8, 2) := by decide +kernel
theorem dX10_add_81 : decode prog_1_method_28_code 81 = .ok (.aload_n 2, 1) := by decide +kernel
theorem dX10_add_82 : decode prog_1_method_28_code 82 = .ok (.getfield 169, 3) := by decide +kernel
theorem dX10_add_85 : decode prog_1_method_28_code 85 = .ok (.imul, 1) := by decide +kernel
theorem dX10_add_86 : decode prog_1_method_28_code 86 = .ok (.iadd, 1) := by decide +kernel
theorem dX10_add_87 : decode prog_1_method_28_code 87 = .ok (.istore_n 3, 1) := by decide +kernel
theorem dX10_add_88 : decode prog_1_method_28_code 88 = .ok (.aload_n 0, 1) := by decide +kernel
theorem dX10_add_89 : decode prog_1_method_28_code 89 = .ok (.getfield 26, 3) := by decide +kernel
theorem dX10_add_92 : decode prog_1_method_28_code 92 = .ok (.getfield 145, 3) := by decide +kernel
theorem dX10_add_95 : decode prog_1_method_28_code 95 = .ok (.getfield 149, 3) := by decide +kernel
theorem dX10_add_98 : decode prog_1_method_28_code 98 = .ok (.sipush 200, 3) := by decide +kernel
theorem dX10_add_101 : decode prog_1_method_28_code 101 = .ok (.if_icmp .ge 14, 3) := by decide +kernel
theorem dX10_add_104 : decode prog_1_method_28_code 104 = .ok (.aload_n 0, 1) := by decide +kernel
theorem dX10_add_105 : decode prog_1_method_28_code 105 = .ok (.getfield 26, 3) := by decide +kernel
theorem dX10_add_108 : decode prog_1_method_28_code 108 = .ok (.iload_n 3, 1) := by decide +kernel
theorem dX10_add_109 : decode prog_1_method_28_code 109 = .ok (.invokevirtual 231, 3) := by decide +kernel
theorem dX10_add_112 : decode prog_1_method_28_code 112 = .ok (.ifCond .ne 5, 3) := by decide +kernel
theorem dX10_add_115 : decode prog_1_method_28_code 115 = .ok (.iconst 4, 1) := by decide +kernel
theorem dX10_add_116 : decode prog_1_method_28_code 116 = .ok (.ireturn, 1) := by decide +kernel
theorem dX10_add_117 : decode prog_1_method_28_code 117 = .ok (.aload_n 0, 1) := by decide +kernel
theorem dX10_add_118 : decode prog_1_method_28_code 118 = .ok (.getfield 26, 3) := by decide +kernel
theorem dX10_add_121 : decode prog_1_method_28_code 121 = .ok (.invokevirtual 235, 3) := by decide +kernel
theorem dX10_add_124 : decode prog_1_method_28_code 124 = .ok (.astore 4, 2) := by decide +kernel
theorem dX10_add_126 : decode prog_1_method_28_code 126 = .ok (.aload 4, 2) := by decide +kernel
theorem dX10_add_128 : decode prog_1_method_28_code 128 = .ok (.aload_n 2, 1) := by decide +kernel
theorem dX10_add_129 : decode prog_1_method_28_code 129 = .ok (.iconst 0, 1) := by decide +kernel
theorem dX10_add_130 : decode prog_1_method_28_code 130 = .ok (.iconst 0, 1) := by decide +kernel
theorem dX10_add_131 : decode prog_1_method_28_code 131 = .ok (.invokevirtual 239, 3) := by decide +kernel
theorem dX10_add_134 : decode prog_1_method_28_code 134 = .ok (.aload_n 0, 1) := by decide +kernel
theorem dX10_add_135 : decode prog_1_method_28_code 135 = .ok (.getfield 26, 3) := by decide +kernel
theorem dX10_add_138 : decode prog_1_method_28_code 138 = .ok (.getfield 145, 3) := by decide +kernel
theorem dX10_add_141 : decode prog_1_method_28_code 141 = .ok (.iload_n 1, 1) := by decide +kernel
theorem dX10_add_142 : decode prog_1_method_28_code 142 = .ok (.aload 4, 2) := by decide +kernel
theorem dX10_add_144 : decode prog_1_method_28_code 144 = .ok (.invokevirtual 242, 3) := by decide +kernel
theorem dX10_add_147 : decode prog_1_method_28_code 147 = .ok (.aload_n 0, 1) := by decide +kernel
theorem dX10_add_148 : decode prog_1_method_28_code 148 = .ok (.getfield 26, 3) := by decide +kernel
theorem dX10_add_151 : decode prog_1_method_28_code 151 = .ok (.iload_n 3, 1) := by decide +kernel
theorem dX10_add_152 : decode prog_1_method_28_code 152 = .ok (.invokevirtual 246, 3) := by decide +kernel
theorem dX10_add_155 : decode prog_1_method_28_code 155 = .ok (.ireturn, 1) := by decide +kernel
theorem dX10_drop_0 : decode prog_1_method_29_code 0 = .ok (.aload_n 0, 1) := by decide +kernel
theorem dX10_drop_1 : decode prog_1_method_29_code 1 = .ok (.getfield 26, 3) := by decide +kernel
theorem dX10_drop_4 : decode prog_1_method_29_code 4 = .ok (.getfield 145, 3) := by decide +kernel
theorem dX10_drop_7 : decode prog_1_method_29_code 7 = .ok (.aload_n 0, 1) := by decide +kernel
theorem dX10_drop_8 : decode prog_1_method_29_code 8 = .ok (.getfield 19, 3) := by decide +kernel
theorem dX10_drop_11 : decode prog_1_method_29_code 11 = .ok (.getfield 214, 3) := by decide +kernel
theorem dX10_drop_14 : decode prog_1_method_29_code 14 = .ok (.iconst 0, 1) := by decide +kernel
theorem dX10_drop_15 : decode prog_1_method_29_code 15 = .ok (.iaload, 1) := by decide +kernel
theorem dX10_drop_16 : decode prog_1_method_29_code 16 = .ok (.invokevirtual 221, 3) := by decide +kernel
theorem dX10_drop_19 : decode prog_1_method_29_code 19 = .ok (.istore_n 1, 1) := by decide +kernel
theorem dX10_drop_20 : decode prog_1_method_29_code 20 = .ok (.iload_n 1, 1) := by decide +kernel
theorem dX10_drop_21 : decode prog_1_method_29_code 21 = .ok (.ifCond .ge 5, 3) := by decide +kernel
theorem dX10_drop_24 : decode prog_1_method_29_code 24 = .ok (.iconst 2, 1) := by decide +kernel
theorem dX10_drop_25 : decode prog_1_method_29_code 25 = .ok (.ireturn, 1) := by decide +kernel
theorem dX10_drop_26 : decode prog_1_method_29_code 26 = .ok (.aload_n 0, 1) := by decide +kernel
theorem dX10_drop_27 : decode prog_1_method_29_code 27 = .ok (.getfield 26, 3) := by decide +kernel
theorem dX10_drop_30 : decode prog_1_method_29_code 30 = .ok (.bipush 8, 2) := by decide +kernel
theorem dX10_drop_32 : decode prog_1_method_29_code 32 = .ok (.invokevirtual 231, 3) := by decide +kernel
theorem dX10_drop_35 : decode prog_1_method_29_code 35 = .ok (.ifCond .ne 5, 3) := by decide +kernel
theorem dX10_drop_38 : decode prog_1_method_29_code 38 = .ok (.iconst 4, 1) := by decide +kernel
theorem dX10_drop_39 : decode prog_1_method_29_code 39 = .ok (.ireturn, 1) := by decide +kernel
theorem dX10_drop_40 : decode prog_1_method_29_code 40 = .ok (.aload_n 0, 1) := by decide +kernel
theorem dX10_drop_41 : decode prog_1_method_29_code 41 = .ok (.getfield 26, 3) := by decide +kernel
theorem dX10_drop_44 : decode prog_1_method_29_code 44 = .ok (.getfield 145, 3) := by decide +kernel
theorem dX10_drop_47 : decode prog_1_method_29_code 47 = .ok (.iload_n 1, 1) := by decide +kernel
theorem dX10_drop_48 : decode prog_1_method_29_code 48 = .ok (.invokevirtual 249, 3) := by decide +kernel
theorem dX10_drop_51 : decode prog_1_method_29_code 51 = .ok (.aload_n 0, 1) := by decide +kernel
theorem dX10_drop_52 : decode prog_1_method_29_code 52 = .ok (.getfield 26, 3) := by decide +kernel
theorem dX10_drop_55 : decode prog_1_method_29_code 55 = .ok (.bipush 8, 2) := by decide +kernel
theorem dX10_drop_57 : decode prog_1_method_29_code 57 = .ok (.invokevirtual 246, 3) := by decide +kernel
theorem dX10_drop_60 : decode prog_1_method_29_code 60 = .ok (.ireturn, 1) := by decide +kernel
theorem dX10_move_0 : decode prog_1_method_30_code 0 = .ok (.aload_n 0, 1) := by decide +kernel
theorem dX10_move_1 : decode prog_1_method_30_code 1 = .ok (.getfield 26, 3) := by decide +kernel
theorem dX10_move_4 : decode prog_1_method_30_code 4 = .ok (.getfield 145, 3) := by decide +kernel
theorem dX10_move_7 : decode prog_1_method_30_code 7 = .ok (.aload_n 0, 1) := by decide +kernel
theorem dX10_move_8 : decode prog_1_method_30_code 8 = .ok (.getfield 19, 3) := by decide +kernel
theorem dX10_move_11 : decode prog_1_method_30_code 11 = .ok (.getfield 214, 3) := by decide +kernel
theorem dX10_move_14 : decode prog_1_method_30_code 14 = .ok (.iconst 0, 1) := by decide +kernel
theorem dX10_move_15 : decode prog_1_method_30_code 15 = .ok (.iaload, 1) := by decide +kernel
theorem dX10_move_16 : decode prog_1_method_30_code 16 = .ok (.invokevirtual 221, 3) := by decide +kernel
theorem dX10_move_19 : decode prog_1_method_30_code 19 = .ok (.istore_n 1, 1) := by decide +kernel
theorem dX10_move_20 : decode prog_1_method_30_code 20 = .ok (.aload_n 0, 1) := by decide +kernel
theorem dX10_move_21 : decode prog_1_method_30_code 21 = .ok (.getfield 19, 3) := by decide +kernel
theorem dX10_move_24 : decode prog_1_method_30_code 24 = .ok (.getfield 214, 3) := by decide +kernel
theorem dX10_move_27 : decode prog_1_method_30_code 27 = .ok (.iconst 1, 1) := by decide +kernel
theorem dX10_move_28 : decode prog_1_method_30_code 28 = .ok (.iaload, 1) := by decide +kernel
theorem dX10_move_29 : decode prog_1_method_30_code 29 = .ok (.istore_n 2, 1) := by decide +kernel
theorem dX10_move_30 : decode prog_1_method_30_code 30 = .ok (.aload_n 0, 1) := by decide +kernel
theorem dX10_move_31 : decode prog_1_method_30_code 31 = .ok (.getfield 19, 3) := by decide +kernel
theorem dX10_move_34 : decode prog_1_method_30_code 34 = .ok (.getfield 214, 3) := by decide +kernel
theorem dX10_move_37 : decode prog_1_method_30_code 37 = .ok (.iconst 2, 1) := by decide +kernel
theorem dX10_move_38 : decode prog_1_method_30_code 38 = .ok (.iaload, 1) := by decide +kernel
theorem dX10_move_39 : decode prog_1_method_30_code 39 = .ok (.istore_n 3, 1) := by decide +kernel
theorem dX10_move_40 : decode prog_1_method_30_code 40 = .ok (.iload_n 1, 1) := by decide +kernel
theorem dX10_move_41 : decode prog_1_method_30_code 41 = .ok (.ifCond .ge 5, 3) := by decide +kernel
theorem dX10_move_44 : decode prog_1_method_30_code 44 = .ok (.iconst 2, 1) := by decide +kernel
theorem dX10_move_45 : decode prog_1_method_30_code 45 = .ok (.ireturn, 1) := by decide +kernel
theorem dX10_move_46 : decode prog_1_method_30_code 46 = .ok (.aload_n 0, 1) := by decide +kernel
theorem dX10_move_47 : decode prog_1_method_30_code 47 = .ok (.getfield 26, 3) := by decide +kernel
theorem dX10_move_50 : decode prog_1_method_30_code 50 = .ok (.getfield 145, 3) := by decide +kernel
theorem dX10_move_53 : decode prog_1_method_30_code 53 = .ok (.getfield 252, 3) := by decide +kernel
theorem dX10_move_56 : decode prog_1_method_30_code 56 = .ok (.iload_n 1, 1) := by decide +kernel
theorem dX10_move_57 : decode prog_1_method_30_code 57 = .ok (.aaload, 1) := by decide +kernel
theorem dX10_move_58 : decode prog_1_method_30_code 58 = .ok (.astore 4, 2) := by decide +kernel
theorem dX10_move_60 : decode prog_1_method_30_code 60 = .ok (.aload 4, 2) := by decide +kernel
theorem dX10_move_62 : decode prog_1_method_30_code 62 = .ok (.iload_n 2, 1) := by decide +kernel
theorem dX10_move_63 : decode prog_1_method_30_code 63 = .ok (.i2l, 1) := by decide +kernel
theorem dX10_move_64 : decode prog_1_method_30_code 64 = .ok (.iload_n 3, 1) := by decide +kernel
theorem dX10_move_65 : decode prog_1_method_30_code 65 = .ok (.i2l, 1) := by decide +kernel
theorem dX10_move_66 : decode prog_1_method_30_code 66 = .ok (.invokevirtual 256, 3) := by decide +kernel
theorem dX10_move_69 : decode prog_1_method_30_code 69 = .ok (.ifCond .ne 5, 3) := by decide +kernel
theorem dX10_move_72 : decode prog_1_method_30_code 72 = .ok (.iconst 5, 1) := by decide +kernel
theorem dX10_move_73 : decode prog_1_method_30_code 73 = .ok (.ireturn, 1) := by decide +kernel
theorem dX10_move_74 : decode prog_1_method_30_code 74 = .ok (.aload_n 0, 1) := by decide +kernel
theorem dX10_move_75 : decode prog_1_method_30_code 75 = .ok (.getfield 26, 3) := by decide +kernel
theorem dX10_move_78 : decode prog_1_method_30_code 78 = .ok (.bipush 16, 2) := by decide +kernel
theorem dX10_move_80 : decode prog_1_method_30_code 80 = .ok (.invokevirtual 231, 3) := by decide +kernel
theorem dX10_move_83 : decode prog_1_method_30_code 83 = .ok (.ifCond .ne 5, 3) := by decide +kernel
theorem dX10_move_86 : decode prog_1_method_30_code 86 = .ok (.iconst 4, 1) := by decide +kernel
theorem dX10_move_87 : decode prog_1_method_30_code 87 = .ok (.ireturn, 1) := by decide +kernel
theorem dX10_move_88 : decode prog_1_method_30_code 88 = .ok (.aload_n 0, 1) := by decide +kernel
theorem dX10_move_89 : decode prog_1_method_30_code 89 = .ok (.getfield 26, 3) := by decide +kernel
theorem dX10_move_92 : decode prog_1_method_30_code 92 = .ok (.invokevirtual 235, 3) := by decide +kernel
theorem dX10_move_95 : decode prog_1_method_30_code 95 = .ok (.astore 5, 2) := by decide +kernel
theorem dX10_move_97 : decode prog_1_method_30_code 97 = .ok (.aload 5, 2) := by decide +kernel
theorem dX10_move_99 : decode prog_1_method_30_code 99 = .ok (.aload 4, 2) := by decide +kernel
theorem dX10_move_101 : decode prog_1_method_30_code 101 = .ok (.iload_n 2, 1) := by decide +kernel
theorem dX10_move_102 : decode prog_1_method_30_code 102 = .ok (.iload_n 3, 1) := by decide +kernel
theorem dX10_move_103 : decode prog_1_method_30_code 103 = .ok (.invokevirtual 239, 3) := by decide +kernel
theorem dX10_move_106 : decode prog_1_method_30_code 106 = .ok (.aload_n 0, 1) := by decide +kernel
theorem dX10_move_107 : decode prog_1_method_30_code 107 = .ok (.getfield 26, 3) := by decide +kernel
theorem dX10_move_110 : decode prog_1_method_30_code 110 = .ok (.getfield 145, 3) := by decide +kernel
theorem dX10_move_113 : decode prog_1_method_30_code 113 = .ok (.iload_n 1, 1) := by decide +kernel
theorem dX10_move_114 : decode prog_1_method_30_code 114 = .ok (.aload 5, 2) := by decide +kernel
theorem dX10_move_116 : decode prog_1_method_30_code 116 = .ok (.invokevirtual 260, 3) := by decide +kernel
theorem dX10_move_119 : decode prog_1_method_30_code 119 = .ok (.aload_n 0, 1) := by decide +kernel
theorem dX10_move_120 : decode prog_1_method_30_code 120 = .ok (.getfield 26, 3) := by decide +kernel
theorem dX10_move_123 : decode prog_1_method_30_code 123 = .ok (.bipush 16, 2) := by decide +kernel
theorem dX10_move_125 : decode prog_1_method_30_code 125 = .ok (.invokevirtual 246, 3) := by decide +kernel
theorem dX10_move_128 : decode prog_1_method_30_code 128 = .ok (.ireturn, 1) := by decide +kernel
theorem dX10_fill_0 : decode prog_1_method_31_code 0 = .ok (.aload_n 0, 1) := by decide +kernel
theorem dX10_fill_1 : decode prog_1_method_31_code 1 = .ok (.getfield 19, 3) := by decide +kernel
theorem dX10_fill_4 : decode prog_1_method_31_code 4 = .ok (.getfield 214, 3) := by decide +kernel
theorem dX10_fill_7 : decode prog_1_method_31_code 7 = .ok (.iconst 0, 1) := by decide +kernel
theorem dX10_fill_8 : decode prog_1_method_31_code 8 = .ok (.iaload, 1) := by decide +kernel
theorem dX10_fill_9 : decode prog_1_method_31_code 9 = .ok (.istore_n 1, 1) := by decide +kernel
theorem dX10_fill_10 : decode prog_1_method_31_code 10 = .ok (.aload_n 0, 1) := by decide +kernel
theorem dX10_fill_11 : decode prog_1_method_31_code 11 = .ok (.getfield 19, 3) := by decide +kernel
theorem dX10_fill_14 : decode prog_1_method_31_code 14 = .ok (.getfield 214, 3) := by decide +kernel
theorem dX10_fill_17 : decode prog_1_method_31_code 17 = .ok (.iconst 1, 1) := by decide +kernel
theorem dX10_fill_18 : decode prog_1_method_31_code 18 = .ok (.iaload, 1) := by decide +kernel
theorem dX10_fill_19 : decode prog_1_method_31_code 19 = .ok (.istore_n 2, 1) := by decide +kernel
theorem dX10_fill_20 : decode prog_1_method_31_code 20 = .ok (.iload_n 1, 1) := by decide +kernel
theorem dX10_fill_21 : decode prog_1_method_31_code 21 = .ok (.iconst 1, 1) := by decide +kernel
theorem dX10_fill_22 : decode prog_1_method_31_code 22 = .ok (.if_icmp .lt 32, 3) := by decide +kernel
theorem dX10_fill_25 : decode prog_1_method_31_code 25 = .ok (.iload_n 2, 1) := by decide +kernel
theorem dX10_fill_26 : decode prog_1_method_31_code 26 = .ok (.iconst 1, 1) := by decide +kernel
theorem dX10_fill_27 : decode prog_1_method_31_code 27 = .ok (.if_icmp .lt 27, 3) := by decide +kernel
theorem dX10_fill_30 : decode prog_1_method_31_code 30 = .ok (.iload_n 2, 1) := by decide +kernel
theorem dX10_fill_31 : decode prog_1_method_31_code 31 = .ok (.bipush 100, 2) := by decide +kernel
theorem dX10_fill_33 : decode prog_1_method_31_code 33 = .ok (.if_icmp .gt 21, 3) := by decide +kernel
theorem dX10_fill_36 : decode prog_1_method_31_code 36 = .ok (.iload_n 1, 1) := by decide +kernel
theorem dX10_fill_37 : decode prog_1_method_31_code 37 = .ok (.iload_n 2, 1) := by decide +kernel
theorem dX10_fill_38 : decode prog_1_method_31_code 38 = .ok (.iadd, 1) := by decide +kernel
theorem dX10_fill_39 : decode prog_1_method_31_code 39 = .ok (.iconst 1, 1) := by decide +kernel
theorem dX10_fill_40 : decode prog_1_method_31_code 40 = .ok (.isub, 1) := by decide +kernel
theorem dX10_fill_41 : decode prog_1_method_31_code 41 = .ok (.sipush 9999, 3) := by decide +kernel
theorem dX10_fill_44 : decode prog_1_method_31_code 44 = .ok (.if_icmp .gt 10, 3) := by decide +kernel
theorem dX10_fill_47 : decode prog_1_method_31_code 47 = .ok (.aload_n 0, 1) := by decide +kernel
theorem dX10_fill_48 : decode prog_1_method_31_code 48 = .ok (.invokevirtual 263, 3) := by decide +kernel
theorem dX10_fill_51 : decode prog_1_method_31_code 51 = .ok (.ifCond .ne 5, 3) := by decide +kernel
theorem dX10_fill_54 : decode prog_1_method_31_code 54 = .ok (.iconst 5, 1) := by decide +kernel
theorem dX10_fill_55 : decode prog_1_method_31_code 55 = .ok (.ireturn, 1) := by decide +kernel
theorem dX10_fill_56 : decode prog_1_method_31_code 56 = .ok (.iconst 0, 1) := by decide +kernel
theorem dX10_fill_57 : decode prog_1_method_31_code 57 = .ok (.istore_n 3, 1) := by decide +kernel
theorem dX10_fill_58 : decode prog_1_method_31_code 58 = .ok (.iload_n 3, 1) := by decide +kernel
theorem dX10_fill_59 : decode prog_1_method_31_code 59 = .ok (.iload_n 2, 1) := by decide +kernel
theorem dX10_fill_60 : decode prog_1_method_31_code 60 = .ok (.if_icmp .ge 27, 3) := by decide +kernel
theorem dX10_fill_63 : decode prog_1_method_31_code 63 = .ok (.aload_n 0, 1) := by decide +kernel
theorem dX10_fill_64 : decode prog_1_method_31_code 64 = .ok (.getfield 26, 3) := by decide +kernel
theorem dX10_fill_67 : decode prog_1_method_31_code 67 = .ok (.getfield 145, 3) := by decide +kernel
theorem dX10_fill_70 : decode prog_1_method_31_code 70 = .ok (.iload_n 1, 1) := by decide +kernel
theorem dX10_fill_71 : decode prog_1_method_31_code 71 = .ok (.iload_n 3, 1) := by decide +kernel
theorem dX10_fill_72 : decode prog_1_method_31_code 72 = .ok (.iadd, 1) := by decide +kernel
theorem dX10_fill_73 : decode prog_1_method_31_code 73 = .ok (.invokevirtual 221, 3) := by decide +kernel
theorem dX10_fill_76 : decode prog_1_method_31_code 76 = .ok (.ifCond .lt 5, 3) := by decide +kernel
theorem dX10_fill_79 : decode prog_1_method_31_code 79 = .ok (.iconst 1, 1) := by decide +kernel
theorem dX10_fill_80 : decode prog_1_method_31_code 80 = .ok (.ireturn, 1) := by decide +kernel
theorem dX10_fill_81 : decode prog_1_method_31_code 81 = .ok (.iinc 3 1, 3) := by decide +kernel
theorem dX10_fill_84 : decode prog_1_method_31_code 84 = .ok (.goto (-26), 3) := by decide +kernel
theorem dX10_fill_87 : decode prog_1_method_31_code 87 = .ok (.aload_n 0, 1) := by decide +kernel
theorem dX10_fill_88 : decode prog_1_method_31_code 88 = .ok (.getfield 26, 3) := by decide +kernel
theorem dX10_fill_91 : decode prog_1_method_31_code 91 = .ok (.getfield 145, 3) := by decide +kernel
theorem dX10_fill_94 : decode prog_1_method_31_code 94 = .ok (.getfield 149, 3) := by decide +kernel
theorem dX10_fill_97 : decode prog_1_method_31_code 97 = .ok (.iload_n 2, 1) := by decide +kernel
theorem dX10_fill_98 : decode prog_1_method_31_code 98 = .ok (.iadd, 1) := by decide +kernel
theorem dX10_fill_99 : decode prog_1_method_31_code 99 = .ok (.sipush 200, 3) := by decide +kernel
theorem dX10_fill_102 : decode prog_1_method_31_code 102 = .ok (.if_icmp .gt 15, 3) := by decide +kernel
theorem dX10_fill_105 : decode prog_1_method_31_code 105 = .ok (.aload_n 0, 1) := by decide +kernel
theorem dX10_fill_106 : decode prog_1_method_31_code 106 = .ok (.getfield 26, 3) := by decide +kernel
theorem dX10_fill_109 : decode prog_1_method_31_code 109 = .ok (.bipush 32, 2) := by decide +kernel
theorem dX10_fill_111 : decode prog_1_method_31_code 111 = .ok (.invokevirtual 231, 3) := by decide +kernel
theorem dX10_fill_114 : decode prog_1_method_31_code 114 = .ok (.ifCond .ne 5, 3) := by decide +kernel
theorem dX10_fill_117 : decode prog_1_method_31_code 117 = .ok (.iconst 4, 1) := by decide +kernel
theorem dX10_fill_118 : decode prog_1_method_31_code 118 = .ok (.ireturn, 1) := by decide +kernel
theorem dX10_fill_119 : decode prog_1_method_31_code 119 = .ok (.aload_n 0, 1) := by decide +kernel
theorem dX10_fill_120 : decode prog_1_method_31_code 120 = .ok (.getfield 19, 3) := by decide +kernel
theorem dX10_fill_123 : decode prog_1_method_31_code 123 = .ok (.getfield 214, 3) := by decide +kernel
theorem dX10_fill_126 : decode prog_1_method_31_code 126 = .ok (.iconst 5, 1) := by decide +kernel
theorem dX10_fill_127 : decode prog_1_method_31_code 127 = .ok (.iaload, 1) := by decide +kernel
theorem dX10_fill_128 : decode prog_1_method_31_code 128 = .ok (.istore_n 3, 1) := by decide +kernel
theorem dX10_fill_129 : decode prog_1_method_31_code 129 = .ok (.iconst 0, 1) := by decide +kernel
theorem dX10_fill_130 : decode prog_1_method_31_code 130 = .ok (.istore 4, 2) := by decide +kernel
theorem dX10_fill_132 : decode prog_1_method_31_code 132 = .ok (.iload 4, 2) := by decide +kernel
theorem dX10_fill_134 : decode prog_1_method_31_code 134 = .ok (.iload_n 2, 1) := by decide +kernel
theorem dX10_fill_135 : decode prog_1_method_31_code 135 = .ok (.if_icmp .ge 42, 3) := by decide +kernel
theorem dX10_fill_138 : decode prog_1_method_31_code 138 = .ok (.aload_n 0, 1) := by decide +kernel
theorem dX10_fill_139 : decode prog_1_method_31_code 139 = .ok (.getfield 26, 3) := by decide +kernel
theorem dX10_fill_142 : decode prog_1_method_31_code 142 = .ok (.invokevirtual 235, 3) := by decide +kernel
theorem dX10_fill_145 : decode prog_1_method_31_code 145 = .ok (.astore 5, 2) := by decide +kernel
theorem dX10_fill_147 : decode prog_1_method_31_code 147 = .ok (.aload_n 0, 1) := by decide +kernel
theorem dX10_fill_148 : decode prog_1_method_31_code 148 = .ok (.aload 5, 2) := by decide +kernel
theorem dX10_fill_150 : decode prog_1_method_31_code 150 = .ok (.iload_n 3, 1) := by decide +kernel
theorem dX10_fill_151 : decode prog_1_method_31_code 151 = .ok (.invokevirtual 267, 3) := by decide +kernel
theorem dX10_fill_154 : decode prog_1_method_31_code 154 = .ok (.istore_n 3, 1) := by decide +kernel
theorem dX10_fill_155 : decode prog_1_method_31_code 155 = .ok (.aload_n 0, 1) := by decide +kernel
theorem dX10_fill_156 : decode prog_1_method_31_code 156 = .ok (.getfield 26, 3) := by decide +kernel
theorem dX10_fill_159 : decode prog_1_method_31_code 159 = .ok (.getfield 145, 3) := by decide +kernel
theorem dX10_fill_162 : decode prog_1_method_31_code 162 = .ok (.iload_n 1, 1) := by decide +kernel
theorem dX10_fill_163 : decode prog_1_method_31_code 163 = .ok (.iload 4, 2) := by decide +kernel
theorem dX10_fill_165 : decode prog_1_method_31_code 165 = .ok (.iadd, 1) := by decide +kernel
theorem dX10_fill_166 : decode prog_1_method_31_code 166 = .ok (.aload 5, 2) := by decide +kernel
theorem dX10_fill_168 : decode prog_1_method_31_code 168 = .ok (.invokevirtual 242, 3) := by decide +kernel
theorem dX10_fill_171 : decode prog_1_method_31_code 171 = .ok (.iinc 4 1, 3) := by decide +kernel
theorem dX10_fill_174 : decode prog_1_method_31_code 174 = .ok (.goto (-42), 3) := by decide +kernel
theorem dX10_fill_177 : decode prog_1_method_31_code 177 = .ok (.aload_n 0, 1) := by decide +kernel
theorem dX10_fill_178 : decode prog_1_method_31_code 178 = .ok (.getfield 26, 3) := by decide +kernel
theorem dX10_fill_181 : decode prog_1_method_31_code 181 = .ok (.bipush 32, 2) := by decide +kernel
theorem dX10_fill_183 : decode prog_1_method_31_code 183 = .ok (.invokevirtual 246, 3) := by decide +kernel
theorem dX10_fill_186 : decode prog_1_method_31_code 186 = .ok (.ireturn, 1) := by decide +kernel
theorem dX10_isFillInPlane_0 : decode prog_1_method_32_code 0 = .ok (.aload_n 0, 1) := by decide +kernel
theorem dX10_isFillInPlane_1 : decode prog_1_method_32_code 1 = .ok (.getfield 19, 3) := by decide +kernel
theorem dX10_isFillInPlane_4 : decode prog_1_method_32_code 4 = .ok (.getfield 214, 3) := by decide +kernel
theorem dX10_isFillInPlane_7 : decode prog_1_method_32_code 7 = .ok (.iconst 4, 1) := by decide +kernel
theorem dX10_isFillInPlane_8 : decode prog_1_method_32_code 8 = .ok (.iaload, 1) := by decide +kernel
theorem dX10_isFillInPlane_9 : decode prog_1_method_32_code 9 = .ok (.i2l, 1) := by decide +kernel
theorem dX10_isFillInPlane_10 : decode prog_1_method_32_code 10 = .ok (.lstore_n 1, 1) := by decide +kernel
theorem dX10_isFillInPlane_11 : decode prog_1_method_32_code 11 = .ok (.lload_n 1, 1) := by decide +kernel
theorem dX10_isFillInPlane_12 : decode prog_1_method_32_code 12 = .ok (.lconst 1, 1) := by decide +kernel
theorem dX10_isFillInPlane_13 : decode prog_1_method_32_code 13 = .ok (.lcmp, 1) := by decide +kernel
theorem dX10_isFillInPlane_14 : decode prog_1_method_32_code 14 = .ok (.ifCond .lt 11, 3) := by decide +kernel
theorem dX10_isFillInPlane_17 : decode prog_1_method_32_code 17 = .ok (.lload_n 1, 1) := by decide +kernel
theorem dX10_isFillInPlane_18 : decode prog_1_method_32_code 18 = .ok (.ldc2_w 271, 3) := by decide +kernel
theorem dX10_isFillInPlane_21 : decode prog_1_method_32_code 21 = .ok (.lcmp, 1) := by decide +kernel
theorem dX10_isFillInPlane_22 : decode prog_1_method_32_code 22 = .ok (.ifCond .le 5, 3) := by decide +kernel
theorem dX10_isFillInPlane_25 : decode prog_1_method_32_code 25 = .ok (.iconst 0, 1) := by decide +kernel
theorem dX10_isFillInPlane_26 : decode prog_1_method_32_code 26 = .ok (.ireturn, 1) := by decide +kernel
theorem dX10_isFillInPlane_27 : decode prog_1_method_32_code 27 = .ok (.lload_n 1, 1) := by decide +kernel
theorem dX10_isFillInPlane_28 : decode prog_1_method_32_code 28 = .ok (.lload_n 1, 1) := by decide +kernel
theorem dX10_isFillInPlane_29 : decode prog_1_method_32_code 29 = .ok (.ldc2_w 273, 3) := by decide +kernel
theorem dX10_isFillInPlane_32 : decode prog_1_method_32_code 32 = .ok (.ldiv, 1) := by decide +kernel
theorem dX10_isFillInPlane_33 : decode prog_1_method_32_code 33 = .ok (.ladd, 1) := by decide +kernel
theorem dX10_isFillInPlane_34 : decode prog_1_method_32_code 34 = .ok (.lconst 1, 1) := by decide +kernel
theorem dX10_isFillInPlane_35 : decode prog_1_method_32_code 35 = .ok (.ladd, 1) := by decide +kernel
theorem dX10_isFillInPlane_36 : decode prog_1_method_32_code 36 = .ok (.lstore_n 3, 1) := by decide +kernel
theorem dX10_isFillInPlane_37 : decode prog_1_method_32_code 37 = .ok (.aload_n 0, 1) := by decide +kernel
theorem dX10_isFillInPlane_38 : decode prog_1_method_32_code 38 = .ok (.getfield 19, 3) := by decide +kernel
theorem dX10_isFillInPlane_41 : decode prog_1_method_32_code 41 = .ok (.getfield 214, 3) := by decide +kernel
theorem dX10_isFillInPlane_44 : decode prog_1_method_32_code 44 = .ok (.iconst 2, 1) := by decide +kernel
theorem dX10_isFillInPlane_45 : decode prog_1_method_32_code 45 = .ok (.iaload, 1) := by decide +kernel
theorem dX10_isFillInPlane_46 : decode prog_1_method_32_code 46 = .ok (.i2l, 1) := by decide +kernel
theorem dX10_isFillInPlane_47 : decode prog_1_method_32_code 47 = .ok (.lload_n 3, 1) := by decide +kernel
theorem dX10_isFillInPlane_48 : decode prog_1_method_32_code 48 = .ok (.ladd, 1) := by decide +kernel
theorem dX10_isFillInPlane_49 : decode prog_1_method_32_code 49 = .ok (.ldc2_w 206, 3) := by decide +kernel
theorem dX10_isFillInPlane_52 : decode prog_1_method_32_code 52 = .ok (.lcmp, 1) := by decide +kernel
theorem dX10_isFillInPlane_53 : decode prog_1_method_32_code 53 = .ok (.ifCond .gt 26, 3) := by decide +kernel
theorem dX10_isFillInPlane_56 : decode prog_1_method_32_code 56 = .ok (.aload_n 0, 1) := by decide +kernel
theorem dX10_isFillInPlane_57 : decode prog_1_method_32_code 57 = .ok (.getfield 19, 3) := by decide +kernel
theorem dX10_isFillInPlane_60 : decode prog_1_method_32_code 60 = .ok (.getfield 214, 3) := by decide +kernel
theorem dX10_isFillInPlane_63 : decode prog_1_method_32_code 63 = .ok (.iconst 3, 1) := by decide +kernel
theorem dX10_isFillInPlane_64 : decode prog_1_method_32_code 64 = .ok (.iaload, 1) := by decide +kernel
theorem dX10_isFillInPlane_65 : decode prog_1_method_32_code 65 = .ok (.i2l, 1) := by decide +kernel
theorem dX10_isFillInPlane_66 : decode prog_1_method_32_code 66 = .ok (.lload_n 3, 1) := by decide +kernel
theorem dX10_isFillInPlane_67 : decode prog_1_method_32_code 67 = .ok (.ladd, 1) := by decide +kernel
theorem dX10_isFillInPlane_68 : decode prog_1_method_32_code 68 = .ok (.ldc2_w 206, 3) := by decide +kernel
theorem dX10_isFillInPlane_71 : decode prog_1_method_32_code 71 = .ok (.lcmp, 1) := by decide +kernel
theorem dX10_isFillInPlane_72 : decode prog_1_method_32_code 72 = .ok (.ifCond .gt 7, 3) := by decide +kernel
theorem dX10_isFillInPlane_75 : decode prog_1_method_32_code 75 = .ok (.iconst 1, 1) := by decide +kernel
theorem dX10_isFillInPlane_76 : decode prog_1_method_32_code 76 = .ok (.goto 4, 3) := by decide +kernel
theorem dX10_isFillInPlane_79 : decode prog_1_method_32_code 79 = .ok (.iconst 0, 1) := by decide +kernel
theorem dX10_isFillInPlane_80 : decode prog_1_method_32_code 80 = .ok (.ireturn, 1) := by decide +kernel
theorem dX10_drawShape_0 : decode prog_1_method_33_code 0 = .ok (.aload_n 0, 1) := by decide +kernel
theorem dX10_drawShape_1 : decode prog_1_method_33_code 1 = .ok (.getfield 19, 3) := by decide +kernel
theorem dX10_drawShape_4 : decode prog_1_method_33_code 4 = .ok (.getfield 214, 3) := by decide +kernel
theorem dX10_drawShape_7 : decode prog_1_method_33_code 7 = .ok (.iconst 4, 1) := by decide +kernel
theorem dX10_drawShape_8 : decode prog_1_method_33_code 8 = .ok (.iaload, 1) := by decide +kernel
theorem dX10_drawShape_9 : decode prog_1_method_33_code 9 = .ok (.istore_n 3, 1) := by decide +kernel
theorem dX10_drawShape_10 : decode prog_1_method_33_code 10 = .ok (.iload_n 2, 1) := by decide +kernel
theorem dX10_drawShape_11 : decode prog_1_method_33_code 11 = .ok (.invokestatic 275, 3) := by decide +kernel
theorem dX10_drawShape_14 : decode prog_1_method_33_code 14 = .ok (.istore 4, 2) := by decide +kernel
theorem dX10_drawShape_16 : decode prog_1_method_33_code 16 = .ok (.aload_n 0, 1) := by decide +kernel
theorem dX10_drawShape_17 : decode prog_1_method_33_code 17 = .ok (.getfield 19, 3) := by decide +kernel
theorem dX10_drawShape_20 : decode prog_1_method_33_code 20 = .ok (.getfield 214, 3) := by decide +kernel
theorem dX10_drawShape_23 : decode prog_1_method_33_code 23 = .ok (.iconst 2, 1) := by decide +kernel
theorem dX10_drawShape_24 : decode prog_1_method_33_code 24 = .ok (.iaload, 1) := by decide +kernel
theorem dX10_drawShape_25 : decode prog_1_method_33_code 25 = .ok (.iload 4, 2) := by decide +kernel
theorem dX10_drawShape_27 : decode prog_1_method_33_code 27 = .ok (.iload_n 3, 1) := by decide +kernel
theorem dX10_drawShape_28 : decode prog_1_method_33_code 28 = .ok (.invokestatic 278, 3) := by decide +kernel
theorem dX10_drawShape_31 : decode prog_1_method_33_code 31 = .ok (.iadd, 1) := by decide +kernel
theorem dX10_drawShape_32 : decode prog_1_method_33_code 32 = .ok (.istore 5, 2) := by decide +kernel
theorem dX10_drawShape_34 : decode prog_1_method_33_code 34 = .ok (.iload 4, 2) := by decide +kernel
theorem dX10_drawShape_36 : decode prog_1_method_33_code 36 = .ok (.invokestatic 275, 3) := by decide +kernel
theorem dX10_drawShape_39 : decode prog_1_method_33_code 39 = .ok (.istore 4, 2) := by decide +kernel
theorem dX10_drawShape_41 : decode prog_1_method_33_code 41 = .ok (.aload_n 0, 1) := by decide +kernel
theorem dX10_drawShape_42 : decode prog_1_method_33_code 42 = .ok (.getfield 19, 3) := by decide +kernel
theorem dX10_drawShape_45 : decode prog_1_method_33_code 45 = .ok (.getfield 214, 3) := by decide +kernel
theorem dX10_drawShape_48 : decode prog_1_method_33_code 48 = .ok (.iconst 3, 1) := by decide +kernel
theorem dX10_drawShape_49 : decode prog_1_method_33_code 49 = .ok (.iaload, 1) := by decide +kernel
theorem dX10_drawShape_50 : decode prog_1_method_33_code 50 = .ok (.iload 4, 2) := by decide +kernel
theorem dX10_drawShape_52 : decode prog_1_method_33_code 52 = .ok (.iload_n 3, 1) := by decide +kernel
theorem dX10_drawShape_53 : decode prog_1_method_33_code 53 = .ok (.invokestatic 278, 3) := by decide +kernel
theorem dX10_drawShape_56 : decode prog_1_method_33_code 56 = .ok (.iadd, 1) := by decide +kernel
theorem dX10_drawShape_57 : decode prog_1_method_33_code 57 = .ok (.istore 6, 2) := by decide +kernel
theorem dX10_drawShape_59 : decode prog_1_method_33_code 59 = .ok (.aload_n 1, 1) := by decide +kernel
theorem dX10_drawShape_60 : decode prog_1_method_33_code 60 = .ok (.aload_n 0, 1) := by decide +kernel
theorem dX10_drawShape_61 : decode prog_1_method_33_code 61 = .ok (.getfield 19, 3) := by decide +kernel
theorem dX10_drawShape_64 : decode prog_1_method_33_code 64 = .ok (.getfield 282, 3) := by decide +kernel
theorem dX10_drawShape_67 : decode prog_1_method_33_code 67 = .ok (.invokevirtual 285, 3) := by decide +kernel
theorem dX10_drawShape_70 : decode prog_1_method_33_code 70 = .ok (.aload_n 1, 1) := by decide +kernel
theorem dX10_drawShape_71 : decode prog_1_method_33_code 71 = .ok (.iload 5, 2) := by decide +kernel
theorem dX10_drawShape_73 : decode prog_1_method_33_code 73 = .ok (.iload 6, 2) := by decide +kernel
theorem dX10_drawShape_75 : decode prog_1_method_33_code 75 = .ok (.invokevirtual 288, 3) := by decide +kernel
theorem dX10_drawShape_78 : decode prog_1_method_33_code 78 = .ok (.aload_n 0, 1) := by decide +kernel
theorem dX10_drawShape_79 : decode prog_1_method_33_code 79 = .ok (.getfield 19, 3) := by decide +kernel
theorem dX10_drawShape_82 : decode prog_1_method_33_code 82 = .ok (.getfield 282, 3) := by decide +kernel
theorem dX10_drawShape_85 : decode prog_1_method_33_code 85 = .ok (.iconst 1, 1) := by decide +kernel
theorem dX10_drawShape_86 : decode prog_1_method_33_code 86 = .ok (.if_icmp .ne 58, 3) := by decide +kernel
theorem dX10_drawShape_89 : decode prog_1_method_33_code 89 = .ok (.iload 4, 2) := by decide +kernel
theorem dX10_drawShape_91 : decode prog_1_method_33_code 91 = .ok (.invokestatic 275, 3) := by decide +kernel
theorem dX10_drawShape_94 : decode prog_1_method_33_code 94 = .ok (.istore 4, 2) := by decide +kernel
theorem dX10_drawShape_96 : decode prog_1_method_33_code 96 = .ok (.iload 4, 2) := by decide +kernel
theorem dX10_drawShape_98 : decode prog_1_method_33_code 98 = .ok (.iload_n 3, 1) := by decide +kernel
theorem dX10_drawShape_99 : decode prog_1_method_33_code 99 = .ok (.bipush 16, 2) := by decide +kernel
theorem dX10_drawShape_101 : decode prog_1_method_33_code 101 = .ok (.idiv, 1) := by decide +kernel
theorem dX10_drawShape_102 : decode prog_1_method_33_code 102 = .ok (.iconst 1, 1) := by decide +kernel
theorem dX10_drawShape_103 : decode prog_1_method_33_code 103 = .ok (.iadd, 1) := by decide +kernel
theorem dX10_drawShape_104 : decode prog_1_method_33_code 104 = .ok (.invokestatic 278, 3) := by decide +kernel
theorem dX10_drawShape_107 : decode prog_1_method_33_code 107 = .ok (.istore 7, 2) := by decide +kernel
theorem dX10_drawShape_109 : decode prog_1_method_33_code 109 = .ok (.iload 4, 2) := by decide +kernel
theorem dX10_drawShape_111 : decode prog_1_method_33_code 111 = .ok (.invokestatic 275, 3) := by decide +kernel
theorem dX10_drawShape_114 : decode prog_1_method_33_code 114 = .ok (.istore 4, 2) := by decide +kernel
theorem dX10_drawShape_116 : decode prog_1_method_33_code 116 = .ok (.aload_n 1, 1) := by decide +kernel
theorem dX10_drawShape_117 : decode prog_1_method_33_code 117 = .ok (.iload 5, 2) := by decide +kernel
theorem dX10_drawShape_119 : decode prog_1_method_33_code 119 = .ok (.iload 7, 2) := by decide +kernel
theorem dX10_drawShape_121 : decode prog_1_method_33_code 121 = .ok (.iadd, 1) := by decide +kernel
theorem dX10_drawShape_122 : decode prog_1_method_33_code 122 = .ok (.iconst 1, 1) := by decide +kernel
theorem dX10_drawShape_123 : decode prog_1_method_33_code 123 = .ok (.iadd, 1) := by decide +kernel
theorem dX10_drawShape_124 : decode prog_1_method_33_code 124 = .ok (.iload 6, 2) := by decide +kernel
theorem dX10_drawShape_126 : decode prog_1_method_33_code 126 = .ok (.iload 4, 2) := by decide +kernel
theorem dX10_drawShape_128 : decode prog_1_method_33_code 128 = .ok (.iload_n 3, 1) := by decide +kernel
theorem dX10_drawShape_129 : decode prog_1_method_33_code 129 = .ok (.bipush 16, 2) := by decide +kernel
theorem dX10_drawShape_131 : decode prog_1_method_33_code 131 = .ok (.idiv, 1) := by decide +kernel
theorem dX10_drawShape_132 : decode prog_1_method_33_code 132 = .ok (.iconst 1, 1) := by decide +kernel
theorem dX10_drawShape_133 : decode prog_1_method_33_code 133 = .ok (.iadd, 1) := by decide +kernel
theorem dX10_drawShape_134 : decode prog_1_method_33_code 134 = .ok (.invokestatic 278, 3) := by decide +kernel
theorem dX10_drawShape_137 : decode prog_1_method_33_code 137 = .ok (.iadd, 1) := by decide +kernel
theorem dX10_drawShape_138 : decode prog_1_method_33_code 138 = .ok (.invokevirtual 288, 3) := by decide +kernel
theorem dX10_drawShape_141 : decode prog_1_method_33_code 141 = .ok (.goto 80, 3) := by decide +kernel
theorem dX10_drawShape_144 : decode prog_1_method_33_code 144 = .ok (.aload_n 0, 1) := by decide +kernel
theorem dX10_drawShape_145 : decode prog_1_method_33_code 145 = .ok (.getfield 19, 3) := by decide +kernel
theorem dX10_drawShape_148 : decode prog_1_method_33_code 148 = .ok (.getfield 282, 3) := by decide +kernel
theorem dX10_drawShape_151 : decode prog_1_method_33_code 151 = .ok (.iconst 2, 1) := by decide +kernel
theorem dX10_drawShape_152 : decode prog_1_method_33_code 152 = .ok (.if_icmp .ne 69, 3) := by decide +kernel
theorem dX10_drawShape_155 : decode prog_1_method_33_code 155 = .ok (.iload 4, 2) := by decide +kernel
theorem dX10_drawShape_157 : decode prog_1_method_33_code 157 = .ok (.invokestatic 275, 3) := by decide +kernel
theorem dX10_drawShape_160 : decode prog_1_method_33_code 160 = .ok (.istore 4, 2) := by decide +kernel
theorem dX10_drawShape_162 : decode prog_1_method_33_code 162 = .ok (.iload 4, 2) := by decide +kernel
theorem dX10_drawShape_164 : decode prog_1_method_33_code 164 = .ok (.iload_n 3, 1) := by decide +kernel
theorem dX10_drawShape_165 : decode prog_1_method_33_code 165 = .ok (.bipush 16, 2) := by decide +kernel
theorem dX10_drawShape_167 : decode prog_1_method_33_code 167 = .ok (.idiv, 1) := by decide +kernel
theorem dX10_drawShape_168 : decode prog_1_method_33_code 168 = .ok (.iconst 1, 1) := by decide +kernel
theorem dX10_drawShape_169 : decode prog_1_method_33_code 169 = .ok (.iadd, 1) := by decide +kernel
theorem dX10_drawShape_170 : decode prog_1_method_33_code 170 = .ok (.invokestatic 278, 3) := by decide +kernel
theorem dX10_drawShape_173 : decode prog_1_method_33_code 173 = .ok (.iconst 1, 1) := by decide +kernel
theorem dX10_drawShape_174 : decode prog_1_method_33_code 174 = .ok (.iadd, 1) := by decide +kernel
theorem dX10_drawShape_175 : decode prog_1_method_33_code 175 = .ok (.istore 7, 2) := by decide +kernel
theorem dX10_drawShape_177 : decode prog_1_method_33_code 177 = .ok (.aload_n 1, 1) := by decide +kernel
theorem dX10_drawShape_178 : decode prog_1_method_33_code 178 = .ok (.iload 5, 2) := by decide +kernel
theorem dX10_drawShape_180 : decode prog_1_method_33_code 180 = .ok (.iload 7, 2) := by decide +kernel
theorem dX10_drawShape_182 : decode prog_1_method_33_code 182 = .ok (.iadd, 1) := by decide +kernel
theorem dX10_drawShape_183 : decode prog_1_method_33_code 183 = .ok (.iload 6, 2) := by decide +kernel
theorem dX10_drawShape_185 : decode prog_1_method_33_code 185 = .ok (.invokevirtual 288, 3) := by decide +kernel
theorem dX10_drawShape_188 : decode prog_1_method_33_code 188 = .ok (.aload_n 1, 1) := by decide +kernel
theorem dX10_drawShape_189 : decode prog_1_method_33_code 189 = .ok (.iload 5, 2) := by decide +kernel
theorem dX10_drawShape_191 : decode prog_1_method_33_code 191 = .ok (.iload 7, 2) := by decide +kernel
theorem dX10_drawShape_193 : decode prog_1_method_33_code 193 = .ok (.iadd, 1) := by decide +kernel
theorem dX10_drawShape_194 : decode prog_1_method_33_code 194 = .ok (.iload 6, 2) := by decide +kernel
theorem dX10_drawShape_196 : decode prog_1_method_33_code 196 = .ok (.iload 7, 2) := by decide +kernel
theorem dX10_drawShape_198 : decode prog_1_method_33_code 198 = .ok (.iadd, 1) := by decide +kernel
theorem dX10_drawShape_199 : decode prog_1_method_33_code 199 = .ok (.invokevirtual 288, 3) := by decide +kernel
theorem dX10_drawShape_202 : decode prog_1_method_33_code 202 = .ok (.aload_n 1, 1) := by decide +kernel
theorem dX10_drawShape_203 : decode prog_1_method_33_code 203 = .ok (.iload 5, 2) := by decide +kernel
theorem dX10_drawShape_205 : decode prog_1_method_33_code 205 = .ok (.iload 6, 2) := by decide +kernel
theorem dX10_drawShape_207 : decode prog_1_method_33_code 207 = .ok (.iload 7, 2) := by decide +kernel
theorem dX10_drawShape_209 : decode prog_1_method_33_code 209 = .ok (.iadd, 1) := by decide +kernel
theorem dX10_drawShape_210 : decode prog_1_method_33_code 210 = .ok (.invokevirtual 288, 3) := by decide +kernel
theorem dX10_drawShape_213 : decode prog_1_method_33_code 213 = .ok (.aload_n 1, 1) := by decide +kernel
theorem dX10_drawShape_214 : decode prog_1_method_33_code 214 = .ok (.iload 5, 2) := by decide +kernel
theorem dX10_drawShape_216 : decode prog_1_method_33_code 216 = .ok (.iload 6, 2) := by decide +kernel
theorem dX10_drawShape_218 : decode prog_1_method_33_code 218 = .ok (.invokevirtual 288, 3) := by decide +kernel
theorem dX10_drawShape_221 : decode prog_1_method_33_code 221 = .ok (.aload_n 1, 1) := by decide +kernel
theorem dX10_drawShape_222 : decode prog_1_method_33_code 222 = .ok (.invokevirtual 292, 3) := by decide +kernel
theorem dX10_drawShape_225 : decode prog_1_method_33_code 225 = .ok (.aload_n 1, 1) := by decide +kernel
theorem dX10_drawShape_226 : decode prog_1_method_33_code 226 = .ok (.invokevirtual 295, 3) := by decide +kernel
theorem dX10_drawShape_229 : decode prog_1_method_33_code 229 = .ok (.iload 4, 2) := by decide +kernel
theorem dX10_drawShape_231 : decode prog_1_method_33_code 231 = .ok (.ireturn, 1) := by decide +kernel
theorem dX10_nextSeed_0 : decode prog_1_method_34_code 0 = .ok (.iload_n 0, 1) := by decide +kernel
theorem dX10_nextSeed_1 : decode prog_1_method_34_code 1 = .ok (.ldc_w 298, 3) := by decide +kernel
theorem dX10_nextSeed_4 : decode prog_1_method_34_code 4 = .ok (.imul, 1) := by decide +kernel
theorem dX10_nextSeed_5 : decode prog_1_method_34_code 5 = .ok (.sipush 12345, 3) := by decide +kernel
theorem dX10_nextSeed_8 : decode prog_1_method_34_code 8 = .ok (.iadd, 1) := by decide +kernel
theorem dX10_nextSeed_9 : decode prog_1_method_34_code 9 = .ok (.ireturn, 1) := by decide +kernel
theorem dX10_draw_0 : decode prog_1_method_35_code 0 = .ok (.iload_n 1, 1) := by decide +kernel
theorem dX10_draw_1 : decode prog_1_method_35_code 1 = .ok (.iconst 1, 1) := by decide +kernel
theorem dX10_draw_2 : decode prog_1_method_35_code 2 = .ok (.if_icmp .ge 7, 3) := by decide +kernel
theorem dX10_draw_5 : decode prog_1_method_35_code 5 = .ok (.iconst 0, 1) := by decide +kernel
theorem dX10_draw_6 : decode prog_1_method_35_code 6 = .ok (.goto 9, 3) := by decide +kernel
theorem dX10_draw_9 : decode prog_1_method_35_code 9 = .ok (.iload_n 0, 1) := by decide +kernel
theorem dX10_draw_10 : decode prog_1_method_35_code 10 = .ok (.bipush 8, 2) := by decide +kernel
theorem dX10_draw_12 : decode prog_1_method_35_code 12 = .ok (.iushr, 1) := by decide +kernel
theorem dX10_draw_13 : decode prog_1_method_35_code 13 = .ok (.iload_n 1, 1) := by decide +kernel
theorem dX10_draw_14 : decode prog_1_method_35_code 14 = .ok (.irem, 1) := by decide +kernel
theorem dX10_draw_15 : decode prog_1_method_35_code 15 = .ok (.ireturn, 1) := by decide +kernel
theorem dX10_find_0 : decode prog_1_method_36_code 0 = .ok (.aload_n 0, 1) := by decide +kernel
theorem dX10_find_1 : decode prog_1_method_36_code 1 = .ok (.getfield 19, 3) := by decide +kernel
theorem dX10_find_4 : decode prog_1_method_36_code 4 = .ok (.getfield 217, 3) := by decide +kernel
theorem dX10_find_7 : decode prog_1_method_36_code 7 = .ok (.getfield 224, 3) := by decide +kernel
theorem dX10_find_10 : decode prog_1_method_36_code 10 = .ok (.ifCond .eq 5, 3) := by decide +kernel
theorem dX10_find_13 : decode prog_1_method_36_code 13 = .ok (.iconst 4, 1) := by decide +kernel
theorem dX10_find_14 : decode prog_1_method_36_code 14 = .ok (.ireturn, 1) := by decide +kernel
theorem dX10_find_15 : decode prog_1_method_36_code 15 = .ok (.aload_n 0, 1) := by decide +kernel
theorem dX10_find_16 : decode prog_1_method_36_code 16 = .ok (.getfield 38, 3) := by decide +kernel
theorem dX10_find_19 : decode prog_1_method_36_code 19 = .ok (.aload_n 0, 1) := by decide +kernel
theorem dX10_find_20 : decode prog_1_method_36_code 20 = .ok (.getfield 19, 3) := by decide +kernel
theorem dX10_find_23 : decode prog_1_method_36_code 23 = .ok (.getfield 217, 3) := by decide +kernel
theorem dX10_find_26 : decode prog_1_method_36_code 26 = .ok (.invokevirtual 227, 3) := by decide +kernel
theorem dX10_find_29 : decode prog_1_method_36_code 29 = .ok (.ifCond .ne 5, 3) := by decide +kernel
theorem dX10_find_32 : decode prog_1_method_36_code 32 = .ok (.iconst 3, 1) := by decide +kernel
theorem dX10_find_33 : decode prog_1_method_36_code 33 = .ok (.ireturn, 1) := by decide +kernel
theorem dX10_find_34 : decode prog_1_method_36_code 34 = .ok (.aload_n 0, 1) := by decide +kernel
theorem dX10_find_35 : decode prog_1_method_36_code 35 = .ok (.getfield 26, 3) := by decide +kernel
theorem dX10_find_38 : decode prog_1_method_36_code 38 = .ok (.getfield 145, 3) := by decide +kernel
theorem dX10_find_41 : decode prog_1_method_36_code 41 = .ok (.astore_n 1, 1) := by decide +kernel
theorem dX10_find_42 : decode prog_1_method_36_code 42 = .ok (.iconst 0, 1) := by decide +kernel
theorem dX10_find_43 : decode prog_1_method_36_code 43 = .ok (.istore_n 2, 1) := by decide +kernel
theorem dX10_find_44 : decode prog_1_method_36_code 44 = .ok (.iload_n 2, 1) := by decide +kernel
theorem dX10_find_45 : decode prog_1_method_36_code 45 = .ok (.aload_n 1, 1) := by decide +kernel
theorem dX10_find_46 : decode prog_1_method_36_code 46 = .ok (.getfield 149, 3) := by decide +kernel
theorem dX10_find_49 : decode prog_1_method_36_code 49 = .ok (.if_icmp .ge 49, 3) := by decide +kernel
theorem dX10_find_52 : decode prog_1_method_36_code 52 = .ok (.aload_n 0, 1) := by decide +kernel
theorem dX10_find_53 : decode prog_1_method_36_code 53 = .ok (.getfield 45, 3) := by decide +kernel
theorem dX10_find_56 : decode prog_1_method_36_code 56 = .ok (.aload_n 0, 1) := by decide +kernel
theorem dX10_find_57 : decode prog_1_method_36_code 57 = .ok (.getfield 19, 3) := by decide +kernel
theorem dX10_find_60 : decode prog_1_method_36_code 60 = .ok (.getfield 299, 3) := by decide +kernel
theorem dX10_find_63 : decode prog_1_method_36_code 63 = .ok (.aload_n 1, 1) := by decide +kernel
theorem dX10_find_64 : decode prog_1_method_36_code 64 = .ok (.getfield 252, 3) := by decide +kernel
theorem dX10_find_67 : decode prog_1_method_36_code 67 = .ok (.iload_n 2, 1) := by decide +kernel
theorem dX10_find_68 : decode prog_1_method_36_code 68 = .ok (.aaload, 1) := by decide +kernel
theorem dX10_find_69 : decode prog_1_method_36_code 69 = .ok (.aload_n 0, 1) := by decide +kernel
theorem dX10_find_70 : decode prog_1_method_36_code 70 = .ok (.getfield 19, 3) := by decide +kernel
theorem dX10_find_73 : decode prog_1_method_36_code 73 = .ok (.getfield 217, 3) := by decide +kernel
theorem dX10_find_76 : decode prog_1_method_36_code 76 = .ok (.invokevirtual 179, 3) := by decide +kernel
theorem dX10_find_79 : decode prog_1_method_36_code 79 = .ok (.ifCond .eq 13, 3) := by decide +kernel
theorem dX10_find_82 : decode prog_1_method_36_code 82 = .ok (.aload_n 0, 1) := by decide +kernel
theorem dX10_find_83 : decode prog_1_method_36_code 83 = .ok (.aload_n 1, 1) := by decide +kernel
theorem dX10_find_84 : decode prog_1_method_36_code 84 = .ok (.getfield 157, 3) := by decide +kernel
theorem dX10_find_87 : decode prog_1_method_36_code 87 = .ok (.iload_n 2, 1) := by decide +kernel
theorem dX10_find_88 : decode prog_1_method_36_code 88 = .ok (.iaload, 1) := by decide +kernel
theorem dX10_find_89 : decode prog_1_method_36_code 89 = .ok (.invokevirtual 302, 3) := by decide +kernel
theorem dX10_find_92 : decode prog_1_method_36_code 92 = .ok (.iinc 2 1, 3) := by decide +kernel
theorem dX10_find_95 : decode prog_1_method_36_code 95 = .ok (.goto (-51), 3) := by decide +kernel
theorem dX10_find_98 : decode prog_1_method_36_code 98 = .ok (.iconst 0, 1) := by decide +kernel
theorem dX10_find_99 : decode prog_1_method_36_code 99 = .ok (.ireturn, 1) := by decide +kernel
theorem dX10_window_0 : decode prog_1_method_37_code 0 = .ok (.aload_n 0, 1) := by decide +kernel
theorem dX10_window_1 : decode prog_1_method_37_code 1 = .ok (.getfield 19, 3) := by decide +kernel
theorem dX10_window_4 : decode prog_1_method_37_code 4 = .ok (.getfield 214, 3) := by decide +kernel
theorem dX10_window_7 : decode prog_1_method_37_code 7 = .ok (.iconst 0, 1) := by decide +kernel
theorem dX10_window_8 : decode prog_1_method_37_code 8 = .ok (.iaload, 1) := by decide +kernel
theorem dX10_window_9 : decode prog_1_method_37_code 9 = .ok (.istore_n 1, 1) := by decide +kernel
theorem dX10_window_10 : decode prog_1_method_37_code 10 = .ok (.aload_n 0, 1) := by decide +kernel
theorem dX10_window_11 : decode prog_1_method_37_code 11 = .ok (.getfield 19, 3) := by decide +kernel
theorem dX10_window_14 : decode prog_1_method_37_code 14 = .ok (.getfield 214, 3) := by decide +kernel
theorem dX10_window_17 : decode prog_1_method_37_code 17 = .ok (.iconst 1, 1) := by decide +kernel
theorem dX10_window_18 : decode prog_1_method_37_code 18 = .ok (.iaload, 1) := by decide +kernel
theorem dX10_window_19 : decode prog_1_method_37_code 19 = .ok (.istore_n 2, 1) := by decide +kernel
theorem dX10_window_20 : decode prog_1_method_37_code 20 = .ok (.aload_n 0, 1) := by decide +kernel
theorem dX10_window_21 : decode prog_1_method_37_code 21 = .ok (.getfield 19, 3) := by decide +kernel
theorem dX10_window_24 : decode prog_1_method_37_code 24 = .ok (.getfield 214, 3) := by decide +kernel
theorem dX10_window_27 : decode prog_1_method_37_code 27 = .ok (.iconst 2, 1) := by decide +kernel
theorem dX10_window_28 : decode prog_1_method_37_code 28 = .ok (.iaload, 1) := by decide +kernel
theorem dX10_window_29 : decode prog_1_method_37_code 29 = .ok (.istore_n 3, 1) := by decide +kernel
theorem dX10_window_30 : decode prog_1_method_37_code 30 = .ok (.aload_n 0, 1) := by decide +kernel
theorem dX10_window_31 : decode prog_1_method_37_code 31 = .ok (.getfield 19, 3) := by decide +kernel
theorem dX10_window_34 : decode prog_1_method_37_code 34 = .ok (.getfield 214, 3) := by decide +kernel
theorem dX10_window_37 : decode prog_1_method_37_code 37 = .ok (.iconst 3, 1) := by decide +kernel
theorem dX10_window_38 : decode prog_1_method_37_code 38 = .ok (.iaload, 1) := by decide +kernel
theorem dX10_window_39 : decode prog_1_method_37_code 39 = .ok (.istore 4, 2) := by decide +kernel
theorem dX10_window_41 : decode prog_1_method_37_code 41 = .ok (.iload_n 3, 1) := by decide +kernel
theorem dX10_window_42 : decode prog_1_method_37_code 42 = .ok (.iload_n 1, 1) := by decide +kernel
theorem dX10_window_43 : decode prog_1_method_37_code 43 = .ok (.if_icmp .lt 9, 3) := by decide +kernel
theorem dX10_window_46 : decode prog_1_method_37_code 46 = .ok (.iload 4, 2) := by decide +kernel
theorem dX10_window_48 : decode prog_1_method_37_code 48 = .ok (.iload_n 2, 1) := by decide +kernel
theorem dX10_window_49 : decode prog_1_method_37_code 49 = .ok (.if_icmp .ge 5, 3) := by decide +kernel
theorem dX10_window_52 : decode prog_1_method_37_code 52 = .ok (.iconst 5, 1) := by decide +kernel
theorem dX10_window_53 : decode prog_1_method_37_code 53 = .ok (.ireturn, 1) := by decide +kernel
theorem dX10_window_54 : decode prog_1_method_37_code 54 = .ok (.aload_n 0, 1) := by decide +kernel
theorem dX10_window_55 : decode prog_1_method_37_code 55 = .ok (.getfield 26, 3) := by decide +kernel
theorem dX10_window_58 : decode prog_1_method_37_code 58 = .ok (.getfield 145, 3) := by decide +kernel
theorem dX10_window_61 : decode prog_1_method_37_code 61 = .ok (.astore 5, 2) := by decide +kernel
theorem dX10_window_63 : decode prog_1_method_37_code 63 = .ok (.iconst 0, 1) := by decide +kernel
theorem dX10_window_64 : decode prog_1_method_37_code 64 = .ok (.istore 6, 2) := by decide +kernel
theorem dX10_window_66 : decode prog_1_method_37_code 66 = .ok (.iload 6, 2) := by decide +kernel
theorem dX10_window_68 : decode prog_1_method_37_code 68 = .ok (.aload 5, 2) := by decide +kernel
theorem dX10_window_70 : decode prog_1_method_37_code 70 = .ok (.getfield 149, 3) := by decide +kernel
theorem dX10_window_73 : decode prog_1_method_37_code 73 = .ok (.if_icmp .ge 40, 3) := by decide +kernel
theorem dX10_window_76 : decode prog_1_method_37_code 76 = .ok (.aload 5, 2) := by decide +kernel
theorem dX10_window_78 : decode prog_1_method_37_code 78 = .ok (.getfield 252, 3) := by decide +kernel
theorem dX10_window_81 : decode prog_1_method_37_code 81 = .ok (.iload 6, 2) := by decide +kernel
theorem dX10_window_83 : decode prog_1_method_37_code 83 = .ok (.aaload, 1) := by decide +kernel
theorem dX10_window_84 : decode prog_1_method_37_code 84 = .ok (.iload_n 1, 1) := by decide +kernel
theorem dX10_window_85 : decode prog_1_method_37_code 85 = .ok (.iload_n 2, 1) := by decide +kernel
theorem dX10_window_86 : decode prog_1_method_37_code 86 = .ok (.iload_n 3, 1) := by decide +kernel
theorem dX10_window_87 : decode prog_1_method_37_code 87 = .ok (.iload 4, 2) := by decide +kernel
theorem dX10_window_89 : decode prog_1_method_37_code 89 = .ok (.invokestatic 305, 3) := by decide +kernel
theorem dX10_window_92 : decode prog_1_method_37_code 92 = .ok (.ifCond .eq 15, 3) := by decide +kernel
theorem dX10_window_95 : decode prog_1_method_37_code 95 = .ok (.aload_n 0, 1) := by decide +kernel
theorem dX10_window_96 : decode prog_1_method_37_code 96 = .ok (.aload 5, 2) := by decide +kernel
theorem dX10_window_98 : decode prog_1_method_37_code 98 = .ok (.getfield 157, 3) := by decide +kernel
theorem dX10_window_101 : decode prog_1_method_37_code 101 = .ok (.iload 6, 2) := by decide +kernel
theorem dX10_window_103 : decode prog_1_method_37_code 103 = .ok (.iaload, 1) := by decide +kernel
theorem dX10_window_104 : decode prog_1_method_37_code 104 = .ok (.invokevirtual 302, 3) := by decide +kernel
theorem dX10_window_107 : decode prog_1_method_37_code 107 = .ok (.iinc 6 1, 3) := by decide +kernel
theorem dX10_window_110 : decode prog_1_method_37_code 110 = .ok (.goto (-44), 3) := by decide +kernel
theorem dX10_window_113 : decode prog_1_method_37_code 113 = .ok (.iconst 0, 1) := by decide +kernel
theorem dX10_window_114 : decode prog_1_method_37_code 114 = .ok (.ireturn, 1) := by decide +kernel
theorem dX10_near_0 : decode prog_1_method_38_code 0 = .ok (.aload_n 0, 1) := by decide +kernel
theorem dX10_near_1 : decode prog_1_method_38_code 1 = .ok (.getfield 19, 3) := by decide +kernel
theorem dX10_near_4 : decode prog_1_method_38_code 4 = .ok (.getfield 214, 3) := by decide +kernel
theorem dX10_near_7 : decode prog_1_method_38_code 7 = .ok (.iconst 0, 1) := by decide +kernel
theorem dX10_near_8 : decode prog_1_method_38_code 8 = .ok (.iaload, 1) := by decide +kernel
theorem dX10_near_9 : decode prog_1_method_38_code 9 = .ok (.istore_n 1, 1) := by decide +kernel
theorem dX10_near_10 : decode prog_1_method_38_code 10 = .ok (.iload_n 1, 1) := by decide +kernel
theorem dX10_near_11 : decode prog_1_method_38_code 11 = .ok (.iconst 1, 1) := by decide +kernel
theorem dX10_near_12 : decode prog_1_method_38_code 12 = .ok (.if_icmp .lt 10, 3) := by decide +kernel
theorem dX10_near_15 : decode prog_1_method_38_code 15 = .ok (.iload_n 1, 1) := by decide +kernel
theorem dX10_near_16 : decode prog_1_method_38_code 16 = .ok (.sipush 200, 3) := by decide +kernel
theorem dX10_near_19 : decode prog_1_method_38_code 19 = .ok (.if_icmp .le 5, 3) := by decide +kernel
theorem dX10_near_22 : decode prog_1_method_38_code 22 = .ok (.iconst 5, 1) := by decide +kernel
theorem dX10_near_23 : decode prog_1_method_38_code 23 = .ok (.ireturn, 1) := by decide +kernel
theorem dX10_near_24 : decode prog_1_method_38_code 24 = .ok (.aload_n 0, 1) := by decide +kernel
theorem dX10_near_25 : decode prog_1_method_38_code 25 = .ok (.getfield 26, 3) := by decide +kernel
theorem dX10_near_28 : decode prog_1_method_38_code 28 = .ok (.getfield 145, 3) := by decide +kernel
theorem dX10_near_31 : decode prog_1_method_38_code 31 = .ok (.astore_n 2, 1) := by decide +kernel
theorem dX10_near_32 : decode prog_1_method_38_code 32 = .ok (.iconst 0, 1) := by decide +kernel
theorem dX10_near_33 : decode prog_1_method_38_code 33 = .ok (.istore_n 3, 1) := by decide +kernel
theorem dX10_near_34 : decode prog_1_method_38_code 34 = .ok (.iload_n 3, 1) := by decide +kernel
theorem dX10_near_35 : decode prog_1_method_38_code 35 = .ok (.aload_n 2, 1) := by decide +kernel
theorem dX10_near_36 : decode prog_1_method_38_code 36 = .ok (.getfield 149, 3) := by decide +kernel
theorem dX10_near_39 : decode prog_1_method_38_code 39 = .ok (.if_icmp .ge 47, 3) := by decide +kernel
theorem dX10_near_42 : decode prog_1_method_38_code 42 = .ok (.aload_n 0, 1) := by decide +kernel
theorem dX10_near_43 : decode prog_1_method_38_code 43 = .ok (.getfield 51, 3) := by decide +kernel
theorem dX10_near_46 : decode prog_1_method_38_code 46 = .ok (.iload_n 3, 1) := by decide +kernel
theorem dX10_near_47 : decode prog_1_method_38_code 47 = .ok (.aaload, 1) := by decide +kernel
theorem dX10_near_48 : decode prog_1_method_38_code 48 = .ok (.aload_n 2, 1) := by decide +kernel
theorem dX10_near_49 : decode prog_1_method_38_code 49 = .ok (.getfield 252, 3) := by decide +kernel
theorem dX10_near_52 : decode prog_1_method_38_code 52 = .ok (.iload_n 3, 1) := by decide +kernel
theorem dX10_near_53 : decode prog_1_method_38_code 53 = .ok (.aaload, 1) := by decide +kernel
theorem dX10_near_54 : decode prog_1_method_38_code 54 = .ok (.aload_n 0, 1) := by decide +kernel
theorem dX10_near_55 : decode prog_1_method_38_code 55 = .ok (.getfield 19, 3) := by decide +kernel
theorem dX10_near_58 : decode prog_1_method_38_code 58 = .ok (.getfield 214, 3) := by decide +kernel
theorem dX10_near_61 : decode prog_1_method_38_code 61 = .ok (.iconst 1, 1) := by decide +kernel
theorem dX10_near_62 : decode prog_1_method_38_code 62 = .ok (.iaload, 1) := by decide +kernel
theorem dX10_near_63 : decode prog_1_method_38_code 63 = .ok (.aload_n 0, 1) := by decide +kernel
theorem dX10_near_64 : decode prog_1_method_38_code 64 = .ok (.getfield 19, 3) := by decide +kernel
theorem dX10_near_67 : decode prog_1_method_38_code 67 = .ok (.getfield 214, 3) := by decide +kernel
theorem dX10_near_70 : decode prog_1_method_38_code 70 = .ok (.iconst 2, 1) := by decide +kernel
theorem dX10_near_71 : decode prog_1_method_38_code 71 = .ok (.iaload, 1) := by decide +kernel
theorem dX10_near_72 : decode prog_1_method_38_code 72 = .ok (.invokevirtual 187, 3) := by decide +kernel
theorem dX10_near_75 : decode prog_1_method_38_code 75 = .ok (.aload_n 0, 1) := by decide +kernel
theorem dX10_near_76 : decode prog_1_method_38_code 76 = .ok (.iload_n 3, 1) := by decide +kernel
theorem dX10_near_77 : decode prog_1_method_38_code 77 = .ok (.invokevirtual 311, 3) := by decide +kernel
theorem dX10_near_80 : decode prog_1_method_38_code 80 = .ok (.iinc 3 1, 3) := by decide +kernel
theorem dX10_near_83 : decode prog_1_method_38_code 83 = .ok (.goto (-49), 3) := by decide +kernel
theorem dX10_near_86 : decode prog_1_method_38_code 86 = .ok (.iconst 0, 1) := by decide +kernel
theorem dX10_near_87 : decode prog_1_method_38_code 87 = .ok (.istore_n 3, 1) := by decide +kernel
theorem dX10_near_88 : decode prog_1_method_38_code 88 = .ok (.iload_n 3, 1) := by decide +kernel
theorem dX10_near_89 : decode prog_1_method_38_code 89 = .ok (.iload_n 1, 1) := by decide +kernel
theorem dX10_near_90 : decode prog_1_method_38_code 90 = .ok (.if_icmp .ge 32, 3) := by decide +kernel
theorem dX10_near_93 : decode prog_1_method_38_code 93 = .ok (.iload_n 3, 1) := by decide +kernel
theorem dX10_near_94 : decode prog_1_method_38_code 94 = .ok (.aload_n 2, 1) := by decide +kernel
theorem dX10_near_95 : decode prog_1_method_38_code 95 = .ok (.getfield 149, 3) := by decide +kernel
theorem dX10_near_98 : decode prog_1_method_38_code 98 = .ok (.if_icmp .ge 24, 3) := by decide +kernel
theorem dX10_near_101 : decode prog_1_method_38_code 101 = .ok (.aload_n 0, 1) := by decide +kernel
theorem dX10_near_102 : decode prog_1_method_38_code 102 = .ok (.aload_n 2, 1) := by decide +kernel
theorem dX10_near_103 : decode prog_1_method_38_code 103 = .ok (.getfield 157, 3) := by decide +kernel
theorem dX10_near_106 : decode prog_1_method_38_code 106 = .ok (.aload_n 0, 1) := by decide +kernel
theorem dX10_near_107 : decode prog_1_method_38_code 107 = .ok (.getfield 56, 3) := by decide +kernel
theorem dX10_near_110 : decode prog_1_method_38_code 110 = .ok (.iload_n 3, 1) := by decide +kernel
theorem dX10_near_111 : decode prog_1_method_38_code 111 = .ok (.iaload, 1) := by decide +kernel
theorem dX10_near_112 : decode prog_1_method_38_code 112 = .ok (.iaload, 1) := by decide +kernel
theorem dX10_near_113 : decode prog_1_method_38_code 113 = .ok (.invokevirtual 302, 3) := by decide +kernel
theorem dX10_near_116 : decode prog_1_method_38_code 116 = .ok (.iinc 3 1, 3) := by decide +kernel
theorem dX10_near_119 : decode prog_1_method_38_code 119 = .ok (.goto (-31), 3) := by decide +kernel
theorem dX10_near_122 : decode prog_1_method_38_code 122 = .ok (.iconst 0, 1) := by decide +kernel
theorem dX10_near_123 : decode prog_1_method_38_code 123 = .ok (.ireturn, 1) := by decide +kernel
theorem dX10_sortIn_0 : decode prog_1_method_39_code 0 = .ok (.iconst 0, 1) := by decide +kernel
theorem dX10_sortIn_1 : decode prog_1_method_39_code 1 = .ok (.istore_n 2, 1) := by decide +kernel
theorem dX10_sortIn_2 : decode prog_1_method_39_code 2 = .ok (.iload_n 1, 1) := by decide +kernel
theorem dX10_sortIn_3 : decode prog_1_method_39_code 3 = .ok (.istore_n 3, 1) := by decide +kernel
theorem dX10_sortIn_4 : decode prog_1_method_39_code 4 = .ok (.iconst 0, 1) := by decide +kernel
theorem dX10_sortIn_5 : decode prog_1_method_39_code 5 = .ok (.istore 4, 2) := by decide +kernel
theorem dX10_sortIn_7 : decode prog_1_method_39_code 7 = .ok (.iload 4, 2) := by decide +kernel
theorem dX10_sortIn_9 : decode prog_1_method_39_code 9 = .ok (.sipush 200, 3) := by decide +kernel
theorem dX10_sortIn_12 : decode prog_1_method_39_code 12 = .ok (.if_icmp .ge 56, 3) := by decide +kernel
theorem dX10_sortIn_15 : decode prog_1_method_39_code 15 = .ok (.iload_n 2, 1) := by decide +kernel
theorem dX10_sortIn_16 : decode prog_1_method_39_code 16 = .ok (.iload_n 3, 1) := by decide +kernel
theorem dX10_sortIn_17 : decode prog_1_method_39_code 17 = .ok (.if_icmp .ge 51, 3) := by decide +kernel
theorem dX10_sortIn_20 : decode prog_1_method_39_code 20 = .ok (.iload_n 2, 1) := by decide +kernel
theorem dX10_sortIn_21 : decode prog_1_method_39_code 21 = .ok (.iload_n 3, 1) := by decide +kernel
theorem dX10_sortIn_22 : decode prog_1_method_39_code 22 = .ok (.iadd, 1) := by decide +kernel
theorem dX10_sortIn_23 : decode prog_1_method_39_code 23 = .ok (.iconst 2, 1) := by decide +kernel
theorem dX10_sortIn_24 : decode prog_1_method_39_code 24 = .ok (.idiv, 1) := by decide +kernel
theorem dX10_sortIn_25 : decode prog_1_method_39_code 25 = .ok (.istore 5, 2) := by decide +kernel
theorem dX10_sortIn_27 : decode prog_1_method_39_code 27 = .ok (.aload_n 0, 1) := by decide +kernel
theorem dX10_sortIn_28 : decode prog_1_method_39_code 28 = .ok (.getfield 51, 3) := by decide +kernel
theorem dX10_sortIn_31 : decode prog_1_method_39_code 31 = .ok (.aload_n 0, 1) := by decide +kernel
theorem dX10_sortIn_32 : decode prog_1_method_39_code 32 = .ok (.getfield 56, 3) := by decide +kernel
theorem dX10_sortIn_35 : decode prog_1_method_39_code 35 = .ok (.iload 5, 2) := by decide +kernel
theorem dX10_sortIn_37 : decode prog_1_method_39_code 37 = .ok (.iaload, 1) := by decide +kernel
theorem dX10_sortIn_38 : decode prog_1_method_39_code 38 = .ok (.aaload, 1) := by decide +kernel
theorem dX10_sortIn_39 : decode prog_1_method_39_code 39 = .ok (.aload_n 0, 1) := by decide +kernel
theorem dX10_sortIn_40 : decode prog_1_method_39_code 40 = .ok (.getfield 51, 3) := by decide +kernel
theorem dX10_sortIn_43 : decode prog_1_method_39_code 43 = .ok (.iload_n 1, 1) := by decide +kernel
theorem dX10_sortIn_44 : decode prog_1_method_39_code 44 = .ok (.aaload, 1) := by decide +kernel
theorem dX10_sortIn_45 : decode prog_1_method_39_code 45 = .ok (.invokevirtual 191, 3) := by decide +kernel
theorem dX10_sortIn_48 : decode prog_1_method_39_code 48 = .ok (.ifCond .le 9, 3) := by decide +kernel
theorem dX10_sortIn_51 : decode prog_1_method_39_code 51 = .ok (.iload 5, 2) := by decide +kernel
theorem dX10_sortIn_53 : decode prog_1_method_39_code 53 = .ok (.istore_n 3, 1) := by decide +kernel
theorem dX10_sortIn_54 : decode prog_1_method_39_code 54 = .ok (.goto 8, 3) := by decide +kernel
theorem dX10_sortIn_57 : decode prog_1_method_39_code 57 = .ok (.iload 5, 2) := by decide +kernel
theorem dX10_sortIn_59 : decode prog_1_method_39_code 59 = .ok (.iconst 1, 1) := by decide +kernel
theorem dX10_sortIn_60 : decode prog_1_method_39_code 60 = .ok (.iadd, 1) := by decide +kernel
theorem dX10_sortIn_61 : decode prog_1_method_39_code 61 = .ok (.istore_n 2, 1) := by decide +kernel
theorem dX10_sortIn_62 : decode prog_1_method_39_code 62 = .ok (.iinc 4 1, 3) := by decide +kernel
theorem dX10_sortIn_65 : decode prog_1_method_39_code 65 = .ok (.goto (-58), 3) := by decide +kernel
theorem dX10_sortIn_68 : decode prog_1_method_39_code 68 = .ok (.iload_n 1, 1) := by decide +kernel
theorem dX10_sortIn_69 : decode prog_1_method_39_code 69 = .ok (.istore 4, 2) := by decide +kernel
theorem dX10_sortIn_71 : decode prog_1_method_39_code 71 = .ok (.iload 4, 2) := by decide +kernel
theorem dX10_sortIn_73 : decode prog_1_method_39_code 73 = .ok (.iload_n 2, 1) := by decide +kernel
theorem dX10_sortIn_74 : decode prog_1_method_39_code 74 = .ok (.if_icmp .le 25, 3) := by decide +kernel
theorem dX10_sortIn_77 : decode prog_1_method_39_code 77 = .ok (.aload_n 0, 1) := by decide +kernel
theorem dX10_sortIn_78 : decode prog_1_method_39_code 78 = .ok (.getfield 56, 3) := by decide +kernel
theorem dX10_sortIn_81 : decode prog_1_method_39_code 81 = .ok (.iload 4, 2) := by decide +kernel
theorem dX10_sortIn_83 : decode prog_1_method_39_code 83 = .ok (.aload_n 0, 1) := by decide +kernel
theorem dX10_sortIn_84 : decode prog_1_method_39_code 84 = .ok (.getfield 56, 3) := by decide +kernel
theorem dX10_sortIn_87 : decode prog_1_method_39_code 87 = .ok (.iload 4, 2) := by decide +kernel
theorem dX10_sortIn_89 : decode prog_1_method_39_code 89 = .ok (.iconst 1, 1) := by decide +kernel
theorem dX10_sortIn_90 : decode prog_1_method_39_code 90 = .ok (.isub, 1) := by decide +kernel
theorem dX10_sortIn_91 : decode prog_1_method_39_code 91 = .ok (.iaload, 1) := by decide +kernel
theorem dX10_sortIn_92 : decode prog_1_method_39_code 92 = .ok (.iastore, 1) := by decide +kernel
theorem dX10_sortIn_93 : decode prog_1_method_39_code 93 = .ok (.iinc 4 (-1), 3) := by decide +kernel
theorem dX10_sortIn_96 : decode prog_1_method_39_code 96 = .ok (.goto (-25), 3) := by decide +kernel
theorem dX10_sortIn_99 : decode prog_1_method_39_code 99 = .ok (.aload_n 0, 1) := by decide +kernel
theorem dX10_sortIn_100 : decode prog_1_method_39_code 100 = .ok (.getfield 56, 3) := by decide +kernel
theorem dX10_sortIn_103 : decode prog_1_method_39_code 103 = .ok (.iload_n 2, 1) := by decide +kernel
theorem dX10_sortIn_104 : decode prog_1_method_39_code 104 = .ok (.iload_n 1, 1) := by decide +kernel
theorem dX10_sortIn_105 : decode prog_1_method_39_code 105 = .ok (.iastore, 1) := by decide +kernel
theorem dX10_sortIn_106 : decode prog_1_method_39_code 106 = .ok (.return_, 1) := by decide +kernel
theorem dX10_join_0 : decode prog_1_method_40_code 0 = .ok (.aload_n 0, 1) := by decide +kernel
theorem dX10_join_1 : decode prog_1_method_40_code 1 = .ok (.getfield 19, 3) := by decide +kernel
theorem dX10_join_4 : decode prog_1_method_40_code 4 = .ok (.getfield 214, 3) := by decide +kernel
theorem dX10_join_7 : decode prog_1_method_40_code 7 = .ok (.iconst 0, 1) := by decide +kernel
theorem dX10_join_8 : decode prog_1_method_40_code 8 = .ok (.iaload, 1) := by decide +kernel
theorem dX10_join_9 : decode prog_1_method_40_code 9 = .ok (.istore_n 1, 1) := by decide +kernel
theorem dX10_join_10 : decode prog_1_method_40_code 10 = .ok (.aload_n 0, 1) := by decide +kernel
theorem dX10_join_11 : decode prog_1_method_40_code 11 = .ok (.getfield 19, 3) := by decide +kernel
theorem dX10_join_14 : decode prog_1_method_40_code 14 = .ok (.getfield 214, 3) := by decide +kernel
theorem dX10_join_17 : decode prog_1_method_40_code 17 = .ok (.iconst 1, 1) := by decide +kernel
theorem dX10_join_18 : decode prog_1_method_40_code 18 = .ok (.iaload, 1) := by decide +kernel
theorem dX10_join_19 : decode prog_1_method_40_code 19 = .ok (.istore_n 2, 1) := by decide +kernel
theorem dX10_join_20 : decode prog_1_method_40_code 20 = .ok (.aload_n 0, 1) := by decide +kernel
theorem dX10_join_21 : decode prog_1_method_40_code 21 = .ok (.getfield 19, 3) := by decide +kernel
theorem dX10_join_24 : decode prog_1_method_40_code 24 = .ok (.getfield 214, 3) := by decide +kernel
theorem dX10_join_27 : decode prog_1_method_40_code 27 = .ok (.iconst 2, 1) := by decide +kernel
theorem dX10_join_28 : decode prog_1_method_40_code 28 = .ok (.iaload, 1) := by decide +kernel
theorem dX10_join_29 : decode prog_1_method_40_code 29 = .ok (.istore_n 3, 1) := by decide +kernel
theorem dX10_join_30 : decode prog_1_method_40_code 30 = .ok (.aload_n 0, 1) := by decide +kernel
theorem dX10_join_31 : decode prog_1_method_40_code 31 = .ok (.getfield 19, 3) := by decide +kernel
theorem dX10_join_34 : decode prog_1_method_40_code 34 = .ok (.getfield 214, 3) := by decide +kernel
theorem dX10_join_37 : decode prog_1_method_40_code 37 = .ok (.iconst 3, 1) := by decide +kernel
theorem dX10_join_38 : decode prog_1_method_40_code 38 = .ok (.iaload, 1) := by decide +kernel
theorem dX10_join_39 : decode prog_1_method_40_code 39 = .ok (.istore 4, 2) := by decide +kernel
theorem dX10_join_41 : decode prog_1_method_40_code 41 = .ok (.iload_n 2, 1) := by decide +kernel
theorem dX10_join_42 : decode prog_1_method_40_code 42 = .ok (.iload_n 1, 1) := by decide +kernel
theorem dX10_join_43 : decode prog_1_method_40_code 43 = .ok (.if_icmp .lt 26, 3) := by decide +kernel
theorem dX10_join_46 : decode prog_1_method_40_code 46 = .ok (.iload 4, 2) := by decide +kernel
theorem dX10_join_48 : decode prog_1_method_40_code 48 = .ok (.iload_n 3, 1) := by decide +kernel
theorem dX10_join_49 : decode prog_1_method_40_code 49 = .ok (.if_icmp .lt 20, 3) := by decide +kernel
theorem dX10_join_52 : decode prog_1_method_40_code 52 = .ok (.iload_n 2, 1) := by decide +kernel
theorem dX10_join_53 : decode prog_1_method_40_code 53 = .ok (.iload_n 1, 1) := by decide +kernel
theorem dX10_join_54 : decode prog_1_method_40_code 54 = .ok (.isub, 1) := by decide +kernel
theorem dX10_join_55 : decode prog_1_method_40_code 55 = .ok (.bipush 63, 2) := by decide +kernel
theorem dX10_join_57 : decode prog_1_method_40_code 57 = .ok (.if_icmp .gt 12, 3) := by decide +kernel
theorem dX10_join_60 : decode prog_1_method_40_code 60 = .ok (.iload 4, 2) := by decide +kernel
theorem dX10_join_62 : decode prog_1_method_40_code 62 = .ok (.iload_n 3, 1) := by decide +kernel
theorem dX10_join_63 : decode prog_1_method_40_code 63 = .ok (.isub, 1) := by decide +kernel
theorem dX10_join_64 : decode prog_1_method_40_code 64 = .ok (.bipush 63, 2) := by decide +kernel
theorem dX10_join_66 : decode prog_1_method_40_code 66 = .ok (.if_icmp .le 5, 3) := by decide +kernel
theorem dX10_join_69 : decode prog_1_method_40_code 69 = .ok (.iconst 5, 1) := by decide +kernel
theorem dX10_join_70 : decode prog_1_method_40_code 70 = .ok (.ireturn, 1) := by decide +kernel
theorem dX10_join_71 : decode prog_1_method_40_code 71 = .ok (.aload_n 0, 1) := by decide +kernel
theorem dX10_join_72 : decode prog_1_method_40_code 72 = .ok (.getfield 26, 3) := by decide +kernel
theorem dX10_join_75 : decode prog_1_method_40_code 75 = .ok (.getfield 145, 3) := by decide +kernel
theorem dX10_join_78 : decode prog_1_method_40_code 78 = .ok (.astore 5, 2) := by decide +kernel
theorem dX10_join_80 : decode prog_1_method_40_code 80 = .ok (.iconst 0, 1) := by decide +kernel
theorem dX10_join_81 : decode prog_1_method_40_code 81 = .ok (.istore 6, 2) := by decide +kernel
theorem dX10_join_83 : decode prog_1_method_40_code 83 = .ok (.iload 6, 2) := by decide +kernel
theorem dX10_join_85 : decode prog_1_method_40_code 85 = .ok (.aload 5, 2) := by decide +kernel
theorem dX10_join_87 : decode prog_1_method_40_code 87 = .ok (.getfield 149, 3) := by decide +kernel
theorem dX10_join_90 : decode prog_1_method_40_code 90 = .ok (.if_icmp .ge 156, 3) := by decide +kernel
theorem dX10_join_93 : decode prog_1_method_40_code 93 = .ok (.aload 5, 2) := by decide +kernel
theorem dX10_join_95 : decode prog_1_method_40_code 95 = .ok (.getfield 157, 3) := by decide +kernel
theorem dX10_join_98 : decode prog_1_method_40_code 98 = .ok (.iload 6, 2) := by decide +kernel
theorem dX10_join_100 : decode prog_1_method_40_code 100 = .ok (.iaload, 1) := by decide +kernel
theorem dX10_join_101 : decode prog_1_method_40_code 101 = .ok (.iload_n 1, 1) := by decide +kernel
theorem dX10_join_102 : decode prog_1_method_40_code 102 = .ok (.if_icmp .lt 138, 3) := by decide +kernel
theorem dX10_join_105 : decode prog_1_method_40_code 105 = .ok (.aload 5, 2) := by decide +kernel
theorem dX10_join_107 : decode prog_1_method_40_code 107 = .ok (.getfield 157, 3) := by decide +kernel
theorem dX10_join_110 : decode prog_1_method_40_code 110 = .ok (.iload 6, 2) := by decide +kernel
theorem dX10_join_112 : decode prog_1_method_40_code 112 = .ok (.iaload, 1) := by decide +kernel
theorem dX10_join_113 : decode prog_1_method_40_code 113 = .ok (.iload_n 2, 1) := by decide +kernel
theorem dX10_join_114 : decode prog_1_method_40_code 114 = .ok (.if_icmp .le 6, 3) := by decide +kernel
theorem dX10_join_117 : decode prog_1_method_40_code 117 = .ok (.goto 123, 3) := by decide +kernel
theorem dX10_join_120 : decode prog_1_method_40_code 120 = .ok (.iconst 0, 1) := by decide +kernel
theorem dX10_join_121 : decode prog_1_method_40_code 121 = .ok (.istore 7, 2) := by decide +kernel
theorem dX10_join_123 : decode prog_1_method_40_code 123 = .ok (.iload 7, 2) := by decide +kernel
theorem dX10_join_125 : decode prog_1_method_40_code 125 = .ok (.aload 5, 2) := by decide +kernel
theorem dX10_join_127 : decode prog_1_method_40_code 127 = .ok (.getfield 149, 3) := by decide +kernel
theorem dX10_join_130 : decode prog_1_method_40_code 130 = .ok (.if_icmp .ge 110, 3) := by decide +kernel
theorem dX10_join_133 : decode prog_1_method_40_code 133 = .ok (.iload 7, 2) := by decide +kernel
theorem dX10_join_135 : decode prog_1_method_40_code 135 = .ok (.iload 6, 2) := by decide +kernel
theorem dX10_join_137 : decode prog_1_method_40_code 137 = .ok (.if_icmp .eq 32, 3) := by decide +kernel
theorem dX10_join_140 : decode prog_1_method_40_code 140 = .ok (.aload 5, 2) := by decide +kernel
theorem dX10_join_142 : decode prog_1_method_40_code 142 = .ok (.getfield 157, 3) := by decide +kernel
theorem dX10_join_145 : decode prog_1_method_40_code 145 = .ok (.iload 7, 2) := by decide +kernel
theorem dX10_join_147 : decode prog_1_method_40_code 147 = .ok (.iaload, 1) := by decide +kernel
theorem dX10_join_148 : decode prog_1_method_40_code 148 = .ok (.iload_n 3, 1) := by decide +kernel
theorem dX10_join_149 : decode prog_1_method_40_code 149 = .ok (.if_icmp .lt 20, 3) := by decide +kernel
theorem dX10_join_152 : decode prog_1_method_40_code 152 = .ok (.aload 5, 2) := by decide +kernel
theorem dX10_join_154 : decode prog_1_method_40_code 154 = .ok (.getfield 157, 3) := by decide +kernel
theorem dX10_join_157 : decode prog_1_method_40_code 157 = .ok (.iload 7, 2) := by decide +kernel
theorem dX10_join_159 : decode prog_1_method_40_code 159 = .ok (.iaload, 1) := by decide +kernel
theorem dX10_join_160 : decode prog_1_method_40_code 160 = .ok (.iload 4, 2) := by decide +kernel
theorem dX10_join_162 : decode prog_1_method_40_code 162 = .ok (.if_icmp .gt 7, 3) := by decide +kernel
theorem dX10_join_165 : decode prog_1_method_40_code 165 = .ok (.iconst 1, 1) := by decide +kernel
theorem dX10_join_166 : decode prog_1_method_40_code 166 = .ok (.goto 4, 3) := by decide +kernel
theorem dX10_join_169 : decode prog_1_method_40_code 169 = .ok (.iconst 0, 1) := by decide +kernel
theorem dX10_join_170 : decode prog_1_method_40_code 170 = .ok (.istore 8, 2) := by decide +kernel
theorem dX10_join_172 : decode prog_1_method_40_code 172 = .ok (.iload 8, 2) := by decide +kernel
theorem dX10_join_174 : decode prog_1_method_40_code 174 = .ok (.ifCond .eq 60, 3) := by decide +kernel
theorem dX10_join_177 : decode prog_1_method_40_code 177 = .ok (.aload_n 0, 1) := by decide +kernel
theorem dX10_join_178 : decode prog_1_method_40_code 178 = .ok (.getfield 45, 3) := by decide +kernel
theorem dX10_join_181 : decode prog_1_method_40_code 181 = .ok (.aload_n 0, 1) := by decide +kernel
theorem dX10_join_182 : decode prog_1_method_40_code 182 = .ok (.getfield 19, 3) := by decide +kernel
