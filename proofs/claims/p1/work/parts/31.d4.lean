theorem d_Jg_valueOf_0 : decode prog_6_method_15_code 0 = .ok (.iload_n 1, 1) := by decide +kernel
theorem d_Jg_valueOf_1 : decode prog_6_method_15_code 1 = .ok (.ldc 172, 2) := by decide +kernel
theorem d_Jg_valueOf_3 : decode prog_6_method_15_code 3 = .ok (.if_icmp .lt (15), 3) := by decide +kernel
theorem d_Jg_valueOf_6 : decode prog_6_method_15_code 6 = .ok (.aload_n 0, 1) := by decide +kernel
theorem d_Jg_valueOf_7 : decode prog_6_method_15_code 7 = .ok (.getfield 29, 3) := by decide +kernel
theorem d_Jg_valueOf_10 : decode prog_6_method_15_code 10 = .ok (.iload_n 1, 1) := by decide +kernel
theorem d_Jg_valueOf_11 : decode prog_6_method_15_code 11 = .ok (.ldc 172, 2) := by decide +kernel
theorem d_Jg_valueOf_13 : decode prog_6_method_15_code 13 = .ok (.isub, 1) := by decide +kernel
theorem d_Jg_valueOf_14 : decode prog_6_method_15_code 14 = .ok (.iaload, 1) := by decide +kernel
theorem d_Jg_valueOf_15 : decode prog_6_method_15_code 15 = .ok (.goto (4), 3) := by decide +kernel
theorem d_Jg_valueOf_18 : decode prog_6_method_15_code 18 = .ok (.iload_n 1, 1) := by decide +kernel
theorem d_Jg_valueOf_19 : decode prog_6_method_15_code 19 = .ok (.ireturn, 1) := by decide +kernel
theorem d_Jg_compare_0 : decode prog_6_method_17_code 0 = .ok (.iload_n 0, 1) := by decide +kernel
theorem d_Jg_compare_1 : decode prog_6_method_17_code 1 = .ok (.tableswitch 60 (60) 62 #[27, 49, 38], 27) := by decide +kernel
theorem d_Jg_compare_28 : decode prog_6_method_17_code 28 = .ok (.iload_n 1, 1) := by decide +kernel
theorem d_Jg_compare_29 : decode prog_6_method_17_code 29 = .ok (.iload_n 2, 1) := by decide +kernel
theorem d_Jg_compare_30 : decode prog_6_method_17_code 30 = .ok (.if_icmp .ge (7), 3) := by decide +kernel
theorem d_Jg_compare_33 : decode prog_6_method_17_code 33 = .ok (.iconst 1, 1) := by decide +kernel
theorem d_Jg_compare_34 : decode prog_6_method_17_code 34 = .ok (.goto (4), 3) := by decide +kernel
theorem d_Jg_compare_37 : decode prog_6_method_17_code 37 = .ok (.iconst 0, 1) := by decide +kernel
theorem d_Jg_compare_38 : decode prog_6_method_17_code 38 = .ok (.ireturn, 1) := by decide +kernel
theorem d_Jg_compare_39 : decode prog_6_method_17_code 39 = .ok (.iload_n 1, 1) := by decide +kernel
theorem d_Jg_compare_40 : decode prog_6_method_17_code 40 = .ok (.iload_n 2, 1) := by decide +kernel
theorem d_Jg_compare_41 : decode prog_6_method_17_code 41 = .ok (.if_icmp .le (7), 3) := by decide +kernel
theorem d_Jg_compare_44 : decode prog_6_method_17_code 44 = .ok (.iconst 1, 1) := by decide +kernel
theorem d_Jg_compare_45 : decode prog_6_method_17_code 45 = .ok (.goto (4), 3) := by decide +kernel
theorem d_Jg_compare_48 : decode prog_6_method_17_code 48 = .ok (.iconst 0, 1) := by decide +kernel
theorem d_Jg_compare_49 : decode prog_6_method_17_code 49 = .ok (.ireturn, 1) := by decide +kernel
theorem d_Jg_compare_50 : decode prog_6_method_17_code 50 = .ok (.iload_n 1, 1) := by decide +kernel
theorem d_Jg_compare_51 : decode prog_6_method_17_code 51 = .ok (.iload_n 2, 1) := by decide +kernel
theorem d_Jg_compare_52 : decode prog_6_method_17_code 52 = .ok (.if_icmp .ne (7), 3) := by decide +kernel
theorem d_Jg_compare_55 : decode prog_6_method_17_code 55 = .ok (.iconst 1, 1) := by decide +kernel
theorem d_Jg_compare_56 : decode prog_6_method_17_code 56 = .ok (.goto (4), 3) := by decide +kernel
theorem d_Jg_compare_59 : decode prog_6_method_17_code 59 = .ok (.iconst 0, 1) := by decide +kernel
theorem d_Jg_compare_60 : decode prog_6_method_17_code 60 = .ok (.ireturn, 1) := by decide +kernel
theorem d_Jg_compare_61 : decode prog_6_method_17_code 61 = .ok (.iload_n 1, 1) := by decide +kernel
theorem d_Jg_compare_62 : decode prog_6_method_17_code 62 = .ok (.iload_n 2, 1) := by decide +kernel
theorem d_Jg_compare_63 : decode prog_6_method_17_code 63 = .ok (.if_icmp .eq (7), 3) := by decide +kernel
theorem d_Jg_compare_66 : decode prog_6_method_17_code 66 = .ok (.iconst 1, 1) := by decide +kernel
theorem d_Jg_compare_67 : decode prog_6_method_17_code 67 = .ok (.goto (4), 3) := by decide +kernel
theorem d_Jg_compare_70 : decode prog_6_method_17_code 70 = .ok (.iconst 0, 1) := by decide +kernel
theorem d_Jg_compare_71 : decode prog_6_method_17_code 71 = .ok (.ireturn, 1) := by decide +kernel
theorem d_Jg_calculate_0 : decode prog_6_method_18_code 0 = .ok (.iload_n 0, 1) := by decide +kernel
theorem d_Jg_calculate_1 : decode prog_6_method_18_code 1 = .ok (.bipush (47), 2) := by decide +kernel
theorem d_Jg_calculate_3 : decode prog_6_method_18_code 3 = .ok (.if_icmp .ne (16), 3) := by decide +kernel
theorem d_Jg_calculate_6 : decode prog_6_method_18_code 6 = .ok (.iload_n 2, 1) := by decide +kernel
theorem d_Jg_calculate_7 : decode prog_6_method_18_code 7 = .ok (.ifCond .ne (8), 3) := by decide +kernel
theorem d_Jg_calculate_10 : decode prog_6_method_18_code 10 = .ok (.ldc 184, 2) := by decide +kernel
theorem d_Jg_calculate_12 : decode prog_6_method_18_code 12 = .ok (.goto (6), 3) := by decide +kernel
theorem d_Jg_calculate_15 : decode prog_6_method_18_code 15 = .ok (.iload_n 1, 1) := by decide +kernel
theorem d_Jg_calculate_16 : decode prog_6_method_18_code 16 = .ok (.iload_n 2, 1) := by decide +kernel
theorem d_Jg_calculate_17 : decode prog_6_method_18_code 17 = .ok (.idiv, 1) := by decide +kernel
theorem d_Jg_calculate_18 : decode prog_6_method_18_code 18 = .ok (.ireturn, 1) := by decide +kernel
theorem d_Jg_calculate_19 : decode prog_6_method_18_code 19 = .ok (.iload_n 1, 1) := by decide +kernel
theorem d_Jg_calculate_20 : decode prog_6_method_18_code 20 = .ok (.i2l, 1) := by decide +kernel
theorem d_Jg_calculate_21 : decode prog_6_method_18_code 21 = .ok (.iload_n 2, 1) := by decide +kernel
theorem d_Jg_calculate_22 : decode prog_6_method_18_code 22 = .ok (.i2l, 1) := by decide +kernel
theorem d_Jg_calculate_23 : decode prog_6_method_18_code 23 = .ok (.lmul, 1) := by decide +kernel
theorem d_Jg_calculate_24 : decode prog_6_method_18_code 24 = .ok (.lstore_n 3, 1) := by decide +kernel
theorem d_Jg_calculate_25 : decode prog_6_method_18_code 25 = .ok (.iload_n 0, 1) := by decide +kernel
theorem d_Jg_calculate_26 : decode prog_6_method_18_code 26 = .ok (.bipush (43), 2) := by decide +kernel
theorem d_Jg_calculate_28 : decode prog_6_method_18_code 28 = .ok (.if_icmp .ne (12), 3) := by decide +kernel
theorem d_Jg_calculate_31 : decode prog_6_method_18_code 31 = .ok (.iload_n 1, 1) := by decide +kernel
theorem d_Jg_calculate_32 : decode prog_6_method_18_code 32 = .ok (.i2l, 1) := by decide +kernel
theorem d_Jg_calculate_33 : decode prog_6_method_18_code 33 = .ok (.iload_n 2, 1) := by decide +kernel
theorem d_Jg_calculate_34 : decode prog_6_method_18_code 34 = .ok (.i2l, 1) := by decide +kernel
theorem d_Jg_calculate_35 : decode prog_6_method_18_code 35 = .ok (.ladd, 1) := by decide +kernel
theorem d_Jg_calculate_36 : decode prog_6_method_18_code 36 = .ok (.lstore_n 3, 1) := by decide +kernel
theorem d_Jg_calculate_37 : decode prog_6_method_18_code 37 = .ok (.goto (15), 3) := by decide +kernel
theorem d_Jg_calculate_40 : decode prog_6_method_18_code 40 = .ok (.iload_n 0, 1) := by decide +kernel
theorem d_Jg_calculate_41 : decode prog_6_method_18_code 41 = .ok (.bipush (45), 2) := by decide +kernel
theorem d_Jg_calculate_43 : decode prog_6_method_18_code 43 = .ok (.if_icmp .ne (9), 3) := by decide +kernel
theorem d_Jg_calculate_46 : decode prog_6_method_18_code 46 = .ok (.iload_n 1, 1) := by decide +kernel
theorem d_Jg_calculate_47 : decode prog_6_method_18_code 47 = .ok (.i2l, 1) := by decide +kernel
theorem d_Jg_calculate_48 : decode prog_6_method_18_code 48 = .ok (.iload_n 2, 1) := by decide +kernel
theorem d_Jg_calculate_49 : decode prog_6_method_18_code 49 = .ok (.i2l, 1) := by decide +kernel
theorem d_Jg_calculate_50 : decode prog_6_method_18_code 50 = .ok (.lsub, 1) := by decide +kernel
theorem d_Jg_calculate_51 : decode prog_6_method_18_code 51 = .ok (.lstore_n 3, 1) := by decide +kernel
theorem d_Jg_calculate_52 : decode prog_6_method_18_code 52 = .ok (.lload_n 3, 1) := by decide +kernel
theorem d_Jg_calculate_53 : decode prog_6_method_18_code 53 = .ok (.ldc2_w 185, 3) := by decide +kernel
theorem d_Jg_calculate_56 : decode prog_6_method_18_code 56 = .ok (.lcmp, 1) := by decide +kernel
theorem d_Jg_calculate_57 : decode prog_6_method_18_code 57 = .ok (.ifCond .lt (11), 3) := by decide +kernel
theorem d_Jg_calculate_60 : decode prog_6_method_18_code 60 = .ok (.lload_n 3, 1) := by decide +kernel
theorem d_Jg_calculate_61 : decode prog_6_method_18_code 61 = .ok (.ldc2_w 187, 3) := by decide +kernel
theorem d_Jg_calculate_64 : decode prog_6_method_18_code 64 = .ok (.lcmp, 1) := by decide +kernel
theorem d_Jg_calculate_65 : decode prog_6_method_18_code 65 = .ok (.ifCond .le (8), 3) := by decide +kernel
theorem d_Jg_calculate_68 : decode prog_6_method_18_code 68 = .ok (.ldc 184, 2) := by decide +kernel
theorem d_Jg_calculate_70 : decode prog_6_method_18_code 70 = .ok (.goto (5), 3) := by decide +kernel
theorem d_Jg_calculate_73 : decode prog_6_method_18_code 73 = .ok (.lload_n 3, 1) := by decide +kernel
theorem d_Jg_calculate_74 : decode prog_6_method_18_code 74 = .ok (.l2i, 1) := by decide +kernel
theorem d_Jg_calculate_75 : decode prog_6_method_18_code 75 = .ok (.ireturn, 1) := by decide +kernel
theorem d_Jg_fit_0 : decode prog_6_method_13_code 0 = .ok (.aload_n 2, 1) := by decide +kernel
theorem d_Jg_fit_1 : decode prog_6_method_13_code 1 = .ok (.iconst 0, 1) := by decide +kernel
theorem d_Jg_fit_2 : decode prog_6_method_13_code 2 = .ok (.iaload, 1) := by decide +kernel
theorem d_Jg_fit_3 : decode prog_6_method_13_code 3 = .ok (.aload_n 1, 1) := by decide +kernel
theorem d_Jg_fit_4 : decode prog_6_method_13_code 4 = .ok (.getfield 161, 3) := by decide +kernel
theorem d_Jg_fit_7 : decode prog_6_method_13_code 7 = .ok (.if_icmp .ne (26), 3) := by decide +kernel
theorem d_Jg_fit_10 : decode prog_6_method_13_code 10 = .ok (.aload_n 2, 1) := by decide +kernel
theorem d_Jg_fit_11 : decode prog_6_method_13_code 11 = .ok (.iconst 1, 1) := by decide +kernel
theorem d_Jg_fit_12 : decode prog_6_method_13_code 12 = .ok (.iaload, 1) := by decide +kernel
theorem d_Jg_fit_13 : decode prog_6_method_13_code 13 = .ok (.aload_n 1, 1) := by decide +kernel
theorem d_Jg_fit_14 : decode prog_6_method_13_code 14 = .ok (.getfield 164, 3) := by decide +kernel
theorem d_Jg_fit_17 : decode prog_6_method_13_code 17 = .ok (.if_icmp .ne (16), 3) := by decide +kernel
theorem d_Jg_fit_20 : decode prog_6_method_13_code 20 = .ok (.aload_n 2, 1) := by decide +kernel
theorem d_Jg_fit_21 : decode prog_6_method_13_code 21 = .ok (.iconst 4, 1) := by decide +kernel
theorem d_Jg_fit_22 : decode prog_6_method_13_code 22 = .ok (.iaload, 1) := by decide +kernel
theorem d_Jg_fit_23 : decode prog_6_method_13_code 23 = .ok (.aload_n 0, 1) := by decide +kernel
theorem d_Jg_fit_24 : decode prog_6_method_13_code 24 = .ok (.getfield 129, 3) := by decide +kernel
theorem d_Jg_fit_27 : decode prog_6_method_13_code 27 = .ok (.iconst (-1), 1) := by decide +kernel
theorem d_Jg_fit_28 : decode prog_6_method_13_code 28 = .ok (.ixor, 1) := by decide +kernel
theorem d_Jg_fit_29 : decode prog_6_method_13_code 29 = .ok (.iand, 1) := by decide +kernel
theorem d_Jg_fit_30 : decode prog_6_method_13_code 30 = .ok (.ifCond .eq (5), 3) := by decide +kernel
theorem d_Jg_fit_33 : decode prog_6_method_13_code 33 = .ok (.iconst (-1), 1) := by decide +kernel
theorem d_Jg_fit_34 : decode prog_6_method_13_code 34 = .ok (.ireturn, 1) := by decide +kernel
theorem d_Jg_fit_35 : decode prog_6_method_13_code 35 = .ok (.aload_n 0, 1) := by decide +kernel
theorem d_Jg_fit_36 : decode prog_6_method_13_code 36 = .ok (.aload_n 1, 1) := by decide +kernel
theorem d_Jg_fit_37 : decode prog_6_method_13_code 37 = .ok (.getfield 101, 3) := by decide +kernel
theorem d_Jg_fit_40 : decode prog_6_method_13_code 40 = .ok (.aload_n 2, 1) := by decide +kernel
theorem d_Jg_fit_41 : decode prog_6_method_13_code 41 = .ok (.iconst 2, 1) := by decide +kernel
theorem d_Jg_fit_42 : decode prog_6_method_13_code 42 = .ok (.iaload, 1) := by decide +kernel
theorem d_Jg_fit_43 : decode prog_6_method_13_code 43 = .ok (.iload_n 3, 1) := by decide +kernel
theorem d_Jg_fit_44 : decode prog_6_method_13_code 44 = .ok (.invokevirtual 165, 3) := by decide +kernel
theorem d_Jg_fit_47 : decode prog_6_method_13_code 47 = .ok (.istore 4, 2) := by decide +kernel
theorem d_Jg_fit_49 : decode prog_6_method_13_code 49 = .ok (.iload 4, 2) := by decide +kernel
theorem d_Jg_fit_51 : decode prog_6_method_13_code 51 = .ok (.iconst (-1), 1) := by decide +kernel
theorem d_Jg_fit_52 : decode prog_6_method_13_code 52 = .ok (.if_icmp .ne (7), 3) := by decide +kernel
theorem d_Jg_fit_55 : decode prog_6_method_13_code 55 = .ok (.iconst (-1), 1) := by decide +kernel
theorem d_Jg_fit_56 : decode prog_6_method_13_code 56 = .ok (.goto (16), 3) := by decide +kernel
theorem d_Jg_fit_59 : decode prog_6_method_13_code 59 = .ok (.aload_n 0, 1) := by decide +kernel
theorem d_Jg_fit_60 : decode prog_6_method_13_code 60 = .ok (.aload_n 1, 1) := by decide +kernel
theorem d_Jg_fit_61 : decode prog_6_method_13_code 61 = .ok (.getfield 106, 3) := by decide +kernel
theorem d_Jg_fit_64 : decode prog_6_method_13_code 64 = .ok (.aload_n 2, 1) := by decide +kernel
theorem d_Jg_fit_65 : decode prog_6_method_13_code 65 = .ok (.iconst 3, 1) := by decide +kernel
theorem d_Jg_fit_66 : decode prog_6_method_13_code 66 = .ok (.iaload, 1) := by decide +kernel
theorem d_Jg_fit_67 : decode prog_6_method_13_code 67 = .ok (.iload 4, 2) := by decide +kernel
theorem d_Jg_fit_69 : decode prog_6_method_13_code 69 = .ok (.invokevirtual 165, 3) := by decide +kernel
theorem d_Jg_fit_72 : decode prog_6_method_13_code 72 = .ok (.ireturn, 1) := by decide +kernel
theorem d_Jg_fitTerm_0 : decode prog_6_method_14_code 0 = .ok (.iload_n 1, 1) := by decide +kernel
theorem d_Jg_fitTerm_1 : decode prog_6_method_14_code 1 = .ok (.invokestatic 169, 3) := by decide +kernel
theorem d_Jg_fitTerm_4 : decode prog_6_method_14_code 4 = .ok (.istore 4, 2) := by decide +kernel
theorem d_Jg_fitTerm_6 : decode prog_6_method_14_code 6 = .ok (.iload 4, 2) := by decide +kernel
theorem d_Jg_fitTerm_8 : decode prog_6_method_14_code 8 = .ok (.iload_n 3, 1) := by decide +kernel
theorem d_Jg_fitTerm_9 : decode prog_6_method_14_code 9 = .ok (.iconst (-1), 1) := by decide +kernel
theorem d_Jg_fitTerm_10 : decode prog_6_method_14_code 10 = .ok (.ixor, 1) := by decide +kernel
theorem d_Jg_fitTerm_11 : decode prog_6_method_14_code 11 = .ok (.iand, 1) := by decide +kernel
theorem d_Jg_fitTerm_12 : decode prog_6_method_14_code 12 = .ok (.ifCond .eq (18), 3) := by decide +kernel
theorem d_Jg_fitTerm_15 : decode prog_6_method_14_code 15 = .ok (.aload_n 0, 1) := by decide +kernel
theorem d_Jg_fitTerm_16 : decode prog_6_method_14_code 16 = .ok (.getfield 29, 3) := by decide +kernel
theorem d_Jg_fitTerm_19 : decode prog_6_method_14_code 19 = .ok (.iload_n 1, 1) := by decide +kernel
theorem d_Jg_fitTerm_20 : decode prog_6_method_14_code 20 = .ok (.ldc 172, 2) := by decide +kernel
theorem d_Jg_fitTerm_22 : decode prog_6_method_14_code 22 = .ok (.isub, 1) := by decide +kernel
theorem d_Jg_fitTerm_23 : decode prog_6_method_14_code 23 = .ok (.iload_n 2, 1) := by decide +kernel
theorem d_Jg_fitTerm_24 : decode prog_6_method_14_code 24 = .ok (.iastore, 1) := by decide +kernel
theorem d_Jg_fitTerm_25 : decode prog_6_method_14_code 25 = .ok (.iload_n 3, 1) := by decide +kernel
theorem d_Jg_fitTerm_26 : decode prog_6_method_14_code 26 = .ok (.iload 4, 2) := by decide +kernel
theorem d_Jg_fitTerm_28 : decode prog_6_method_14_code 28 = .ok (.ior, 1) := by decide +kernel
theorem d_Jg_fitTerm_29 : decode prog_6_method_14_code 29 = .ok (.ireturn, 1) := by decide +kernel
theorem d_Jg_fitTerm_30 : decode prog_6_method_14_code 30 = .ok (.aload_n 0, 1) := by decide +kernel
theorem d_Jg_fitTerm_31 : decode prog_6_method_14_code 31 = .ok (.iload_n 1, 1) := by decide +kernel
theorem d_Jg_fitTerm_32 : decode prog_6_method_14_code 32 = .ok (.invokevirtual 157, 3) := by decide +kernel
theorem d_Jg_fitTerm_35 : decode prog_6_method_14_code 35 = .ok (.iload_n 2, 1) := by decide +kernel
theorem d_Jg_fitTerm_36 : decode prog_6_method_14_code 36 = .ok (.if_icmp .ne (7), 3) := by decide +kernel
theorem d_Jg_fitTerm_39 : decode prog_6_method_14_code 39 = .ok (.iload_n 3, 1) := by decide +kernel
theorem d_Jg_fitTerm_40 : decode prog_6_method_14_code 40 = .ok (.goto (4), 3) := by decide +kernel
theorem d_Jg_fitTerm_43 : decode prog_6_method_14_code 43 = .ok (.iconst (-1), 1) := by decide +kernel
theorem d_Jg_fitTerm_44 : decode prog_6_method_14_code 44 = .ok (.ireturn, 1) := by decide +kernel
theorem d_Jg_verdict_0 : decode prog_6_method_5_code 0 = .ok (.aload_n 0, 1) := by decide +kernel
theorem d_Jg_verdict_1 : decode prog_6_method_5_code 1 = .ok (.getfield 69, 3) := by decide +kernel
theorem d_Jg_verdict_4 : decode prog_6_method_5_code 4 = .ok (.istore_n 1, 1) := by decide +kernel
theorem d_Jg_verdict_5 : decode prog_6_method_5_code 5 = .ok (.iload_n 1, 1) := by decide +kernel
theorem d_Jg_verdict_6 : decode prog_6_method_5_code 6 = .ok (.aload_n 0, 1) := by decide +kernel
theorem d_Jg_verdict_7 : decode prog_6_method_5_code 7 = .ok (.invokevirtual 72, 3) := by decide +kernel
theorem d_Jg_verdict_10 : decode prog_6_method_5_code 10 = .ok (.ior, 1) := by decide +kernel
theorem d_Jg_verdict_11 : decode prog_6_method_5_code 11 = .ok (.istore_n 1, 1) := by decide +kernel
theorem d_Jg_verdict_12 : decode prog_6_method_5_code 12 = .ok (.aload_n 0, 1) := by decide +kernel
theorem d_Jg_verdict_13 : decode prog_6_method_5_code 13 = .ok (.invokevirtual 76, 3) := by decide +kernel
theorem d_Jg_verdict_16 : decode prog_6_method_5_code 16 = .ok (.istore_n 2, 1) := by decide +kernel
theorem d_Jg_verdict_17 : decode prog_6_method_5_code 17 = .ok (.iload_n 1, 1) := by decide +kernel
theorem d_Jg_verdict_18 : decode prog_6_method_5_code 18 = .ok (.ifCond .ne (9), 3) := by decide +kernel
theorem d_Jg_verdict_21 : decode prog_6_method_5_code 21 = .ok (.iload_n 2, 1) := by decide +kernel
theorem d_Jg_verdict_22 : decode prog_6_method_5_code 22 = .ok (.bipush (-3), 2) := by decide +kernel
theorem d_Jg_verdict_24 : decode prog_6_method_5_code 24 = .ok (.if_icmp .ne (6), 3) := by decide +kernel
theorem d_Jg_verdict_27 : decode prog_6_method_5_code 27 = .ok (.bipush (-3), 2) := by decide +kernel
theorem d_Jg_verdict_29 : decode prog_6_method_5_code 29 = .ok (.ireturn, 1) := by decide +kernel
theorem d_Jg_verdict_30 : decode prog_6_method_5_code 30 = .ok (.aload_n 0, 1) := by decide +kernel
theorem d_Jg_verdict_31 : decode prog_6_method_5_code 31 = .ok (.getfield 44, 3) := by decide +kernel
theorem d_Jg_verdict_34 : decode prog_6_method_5_code 34 = .ok (.ifCond .eq (8), 3) := by decide +kernel
theorem d_Jg_verdict_37 : decode prog_6_method_5_code 37 = .ok (.bipush (-4), 2) := by decide +kernel
theorem d_Jg_verdict_39 : decode prog_6_method_5_code 39 = .ok (.goto (4), 3) := by decide +kernel
theorem d_Jg_verdict_42 : decode prog_6_method_5_code 42 = .ok (.iload_n 2, 1) := by decide +kernel
theorem d_Jg_verdict_43 : decode prog_6_method_5_code 43 = .ok (.ireturn, 1) := by decide +kernel
theorem d_Jg_lookAtChecks_0 : decode prog_6_method_8_code 0 = .ok (.iconst 0, 1) := by decide +kernel
theorem d_Jg_lookAtChecks_1 : decode prog_6_method_8_code 1 = .ok (.istore_n 1, 1) := by decide +kernel
theorem d_Jg_lookAtChecks_2 : decode prog_6_method_8_code 2 = .ok (.iconst 0, 1) := by decide +kernel
theorem d_Jg_lookAtChecks_3 : decode prog_6_method_8_code 3 = .ok (.istore_n 2, 1) := by decide +kernel
theorem d_Jg_lookAtChecks_4 : decode prog_6_method_8_code 4 = .ok (.iconst 0, 1) := by decide +kernel
theorem d_Jg_lookAtChecks_5 : decode prog_6_method_8_code 5 = .ok (.istore_n 3, 1) := by decide +kernel
theorem d_Jg_lookAtChecks_6 : decode prog_6_method_8_code 6 = .ok (.iload_n 3, 1) := by decide +kernel
theorem d_Jg_lookAtChecks_7 : decode prog_6_method_8_code 7 = .ok (.iconst 5, 1) := by decide +kernel
theorem d_Jg_lookAtChecks_8 : decode prog_6_method_8_code 8 = .ok (.if_icmp .ge (146), 3) := by decide +kernel
theorem d_Jg_lookAtChecks_11 : decode prog_6_method_8_code 11 = .ok (.aload_n 0, 1) := by decide +kernel
theorem d_Jg_lookAtChecks_12 : decode prog_6_method_8_code 12 = .ok (.getfield 25, 3) := by decide +kernel
theorem d_Jg_lookAtChecks_15 : decode prog_6_method_8_code 15 = .ok (.iload_n 3, 1) := by decide +kernel
theorem d_Jg_lookAtChecks_16 : decode prog_6_method_8_code 16 = .ok (.aaload, 1) := by decide +kernel
theorem d_Jg_lookAtChecks_17 : decode prog_6_method_8_code 17 = .ok (.getfield 80, 3) := by decide +kernel
theorem d_Jg_lookAtChecks_20 : decode prog_6_method_8_code 20 = .ok (.astore 4, 2) := by decide +kernel
theorem d_Jg_lookAtChecks_22 : decode prog_6_method_8_code 22 = .ok (.iconst 0, 1) := by decide +kernel
theorem d_Jg_lookAtChecks_23 : decode prog_6_method_8_code 23 = .ok (.istore 5, 2) := by decide +kernel
theorem d_Jg_lookAtChecks_25 : decode prog_6_method_8_code 25 = .ok (.iload 5, 2) := by decide +kernel
theorem d_Jg_lookAtChecks_27 : decode prog_6_method_8_code 27 = .ok (.aload 4, 2) := by decide +kernel
theorem d_Jg_lookAtChecks_29 : decode prog_6_method_8_code 29 = .ok (.invokeinterface 84 1, 5) := by decide +kernel
theorem d_Jg_lookAtChecks_34 : decode prog_6_method_8_code 34 = .ok (.if_icmp .ge (114), 3) := by decide +kernel
theorem d_Jg_lookAtChecks_37 : decode prog_6_method_8_code 37 = .ok (.aload 4, 2) := by decide +kernel
theorem d_Jg_lookAtChecks_39 : decode prog_6_method_8_code 39 = .ok (.iload 5, 2) := by decide +kernel
theorem d_Jg_lookAtChecks_41 : decode prog_6_method_8_code 41 = .ok (.invokeinterface 88 2, 5) := by decide +kernel
theorem d_Jg_lookAtChecks_46 : decode prog_6_method_8_code 46 = .ok (.checkcast 92, 3) := by decide +kernel
theorem d_Jg_lookAtChecks_49 : decode prog_6_method_8_code 49 = .ok (.astore 6, 2) := by decide +kernel
theorem d_Jg_lookAtChecks_51 : decode prog_6_method_8_code 51 = .ok (.aload 6, 2) := by decide +kernel
theorem d_Jg_lookAtChecks_53 : decode prog_6_method_8_code 53 = .ok (.getfield 94, 3) := by decide +kernel
theorem d_Jg_lookAtChecks_56 : decode prog_6_method_8_code 56 = .ok (.iconst 2, 1) := by decide +kernel
theorem d_Jg_lookAtChecks_57 : decode prog_6_method_8_code 57 = .ok (.if_icmp .eq (15), 3) := by decide +kernel
theorem d_Jg_lookAtChecks_60 : decode prog_6_method_8_code 60 = .ok (.aload 6, 2) := by decide +kernel
theorem d_Jg_lookAtChecks_62 : decode prog_6_method_8_code 62 = .ok (.getfield 94, 3) := by decide +kernel
theorem d_Jg_lookAtChecks_65 : decode prog_6_method_8_code 65 = .ok (.iconst 3, 1) := by decide +kernel
theorem d_Jg_lookAtChecks_66 : decode prog_6_method_8_code 66 = .ok (.if_icmp .eq (6), 3) := by decide +kernel
theorem d_Jg_lookAtChecks_69 : decode prog_6_method_8_code 69 = .ok (.goto (73), 3) := by decide +kernel
theorem d_Jg_lookAtChecks_72 : decode prog_6_method_8_code 72 = .ok (.aload_n 0, 1) := by decide +kernel
theorem d_Jg_lookAtChecks_73 : decode prog_6_method_8_code 73 = .ok (.aload 6, 2) := by decide +kernel
theorem d_Jg_lookAtChecks_75 : decode prog_6_method_8_code 75 = .ok (.iload_n 3, 1) := by decide +kernel
theorem d_Jg_lookAtChecks_76 : decode prog_6_method_8_code 76 = .ok (.invokevirtual 113, 3) := by decide +kernel
theorem d_Jg_lookAtChecks_79 : decode prog_6_method_8_code 79 = .ok (.iload_n 1, 1) := by decide +kernel
theorem d_Jg_lookAtChecks_80 : decode prog_6_method_8_code 80 = .ok (.aload_n 0, 1) := by decide +kernel
theorem d_Jg_lookAtChecks_81 : decode prog_6_method_8_code 81 = .ok (.getfield 117, 3) := by decide +kernel
theorem d_Jg_lookAtChecks_84 : decode prog_6_method_8_code 84 = .ok (.ior, 1) := by decide +kernel
theorem d_Jg_lookAtChecks_85 : decode prog_6_method_8_code 85 = .ok (.istore_n 1, 1) := by decide +kernel
theorem d_Jg_lookAtChecks_86 : decode prog_6_method_8_code 86 = .ok (.aload_n 0, 1) := by decide +kernel
theorem d_Jg_lookAtChecks_87 : decode prog_6_method_8_code 87 = .ok (.getfield 120, 3) := by decide +kernel
theorem d_Jg_lookAtChecks_90 : decode prog_6_method_8_code 90 = .ok (.ifCond .eq (23), 3) := by decide +kernel
theorem d_Jg_lookAtChecks_93 : decode prog_6_method_8_code 93 = .ok (.aload 6, 2) := by decide +kernel
theorem d_Jg_lookAtChecks_95 : decode prog_6_method_8_code 95 = .ok (.getfield 94, 3) := by decide +kernel
theorem d_Jg_lookAtChecks_98 : decode prog_6_method_8_code 98 = .ok (.iconst 2, 1) := by decide +kernel
theorem d_Jg_lookAtChecks_99 : decode prog_6_method_8_code 99 = .ok (.if_icmp .eq (10), 3) := by decide +kernel
theorem d_Jg_lookAtChecks_102 : decode prog_6_method_8_code 102 = .ok (.aload_n 0, 1) := by decide +kernel
theorem d_Jg_lookAtChecks_103 : decode prog_6_method_8_code 103 = .ok (.getfield 123, 3) := by decide +kernel
theorem d_Jg_lookAtChecks_106 : decode prog_6_method_8_code 106 = .ok (.ifCond .ne (7), 3) := by decide +kernel
theorem d_Jg_lookAtChecks_109 : decode prog_6_method_8_code 109 = .ok (.iconst 1, 1) := by decide +kernel
theorem d_Jg_lookAtChecks_110 : decode prog_6_method_8_code 110 = .ok (.goto (4), 3) := by decide +kernel
theorem d_Jg_lookAtChecks_113 : decode prog_6_method_8_code 113 = .ok (.iconst 0, 1) := by decide +kernel
theorem d_Jg_lookAtChecks_114 : decode prog_6_method_8_code 114 = .ok (.istore 7, 2) := by decide +kernel
theorem d_Jg_lookAtChecks_116 : decode prog_6_method_8_code 116 = .ok (.iload 7, 2) := by decide +kernel
theorem d_Jg_lookAtChecks_118 : decode prog_6_method_8_code 118 = .ok (.ifCond .ne (21), 3) := by decide +kernel
theorem d_Jg_lookAtChecks_121 : decode prog_6_method_8_code 121 = .ok (.iload_n 2, 1) := by decide +kernel
theorem d_Jg_lookAtChecks_122 : decode prog_6_method_8_code 122 = .ok (.bipush (31), 2) := by decide +kernel
theorem d_Jg_lookAtChecks_124 : decode prog_6_method_8_code 124 = .ok (.if_icmp .ge (15), 3) := by decide +kernel
theorem d_Jg_lookAtChecks_127 : decode prog_6_method_8_code 127 = .ok (.aload_n 0, 1) := by decide +kernel
theorem d_Jg_lookAtChecks_128 : decode prog_6_method_8_code 128 = .ok (.dup, 1) := by decide +kernel
theorem d_Jg_lookAtChecks_129 : decode prog_6_method_8_code 129 = .ok (.getfield 44, 3) := by decide +kernel
theorem d_Jg_lookAtChecks_132 : decode prog_6_method_8_code 132 = .ok (.iconst 1, 1) := by decide +kernel
theorem d_Jg_lookAtChecks_133 : decode prog_6_method_8_code 133 = .ok (.iload_n 2, 1) := by decide +kernel
theorem d_Jg_lookAtChecks_134 : decode prog_6_method_8_code 134 = .ok (.ishl, 1) := by decide +kernel
theorem d_Jg_lookAtChecks_135 : decode prog_6_method_8_code 135 = .ok (.ior, 1) := by decide +kernel
theorem d_Jg_lookAtChecks_136 : decode prog_6_method_8_code 136 = .ok (.putfield 44, 3) := by decide +kernel
theorem d_Jg_lookAtChecks_139 : decode prog_6_method_8_code 139 = .ok (.iinc 2 (1), 3) := by decide +kernel
theorem d_Jg_lookAtChecks_142 : decode prog_6_method_8_code 142 = .ok (.iinc 5 (1), 3) := by decide +kernel
theorem d_Jg_lookAtChecks_145 : decode prog_6_method_8_code 145 = .ok (.goto (-120), 3) := by decide +kernel
theorem d_Jg_lookAtChecks_148 : decode prog_6_method_8_code 148 = .ok (.iinc 3 (1), 3) := by decide +kernel
theorem d_Jg_lookAtChecks_151 : decode prog_6_method_8_code 151 = .ok (.goto (-145), 3) := by decide +kernel
theorem d_Jg_lookAtChecks_154 : decode prog_6_method_8_code 154 = .ok (.iload_n 1, 1) := by decide +kernel
theorem d_Jg_lookAtChecks_155 : decode prog_6_method_8_code 155 = .ok (.ireturn, 1) := by decide +kernel
theorem d_Jg_lookAtPolicies_0 : decode prog_6_method_9_code 0 = .ok (.aload_n 0, 1) := by decide +kernel
theorem d_Jg_lookAtPolicies_1 : decode prog_6_method_9_code 1 = .ok (.getfield 25, 3) := by decide +kernel
theorem d_Jg_lookAtPolicies_4 : decode prog_6_method_9_code 4 = .ok (.iconst 4, 1) := by decide +kernel
theorem d_Jg_lookAtPolicies_5 : decode prog_6_method_9_code 5 = .ok (.aaload, 1) := by decide +kernel
theorem d_Jg_lookAtPolicies_6 : decode prog_6_method_9_code 6 = .ok (.getfield 80, 3) := by decide +kernel
theorem d_Jg_lookAtPolicies_9 : decode prog_6_method_9_code 9 = .ok (.astore_n 1, 1) := by decide +kernel
theorem d_Jg_lookAtPolicies_10 : decode prog_6_method_9_code 10 = .ok (.iconst 0, 1) := by decide +kernel
theorem d_Jg_lookAtPolicies_11 : decode prog_6_method_9_code 11 = .ok (.istore_n 2, 1) := by decide +kernel
theorem d_Jg_lookAtPolicies_12 : decode prog_6_method_9_code 12 = .ok (.iconst 0, 1) := by decide +kernel
theorem d_Jg_lookAtPolicies_13 : decode prog_6_method_9_code 13 = .ok (.istore_n 3, 1) := by decide +kernel
theorem d_Jg_lookAtPolicies_14 : decode prog_6_method_9_code 14 = .ok (.iload_n 3, 1) := by decide +kernel
theorem d_Jg_lookAtPolicies_15 : decode prog_6_method_9_code 15 = .ok (.aload_n 1, 1) := by decide +kernel
theorem d_Jg_lookAtPolicies_16 : decode prog_6_method_9_code 16 = .ok (.invokeinterface 84 1, 5) := by decide +kernel
theorem d_Jg_lookAtPolicies_21 : decode prog_6_method_9_code 21 = .ok (.if_icmp .ge (85), 3) := by decide +kernel
theorem d_Jg_lookAtPolicies_24 : decode prog_6_method_9_code 24 = .ok (.aload_n 1, 1) := by decide +kernel
theorem d_Jg_lookAtPolicies_25 : decode prog_6_method_9_code 25 = .ok (.iload_n 3, 1) := by decide +kernel
theorem d_Jg_lookAtPolicies_26 : decode prog_6_method_9_code 26 = .ok (.invokeinterface 88 2, 5) := by decide +kernel
theorem d_Jg_lookAtPolicies_31 : decode prog_6_method_9_code 31 = .ok (.checkcast 92, 3) := by decide +kernel
theorem d_Jg_lookAtPolicies_34 : decode prog_6_method_9_code 34 = .ok (.astore 4, 2) := by decide +kernel
theorem d_Jg_lookAtPolicies_36 : decode prog_6_method_9_code 36 = .ok (.aload 4, 2) := by decide +kernel
theorem d_Jg_lookAtPolicies_38 : decode prog_6_method_9_code 38 = .ok (.getfield 94, 3) := by decide +kernel
theorem d_Jg_lookAtPolicies_41 : decode prog_6_method_9_code 41 = .ok (.iconst 4, 1) := by decide +kernel
theorem d_Jg_lookAtPolicies_42 : decode prog_6_method_9_code 42 = .ok (.if_icmp .eq (15), 3) := by decide +kernel
theorem d_Jg_lookAtPolicies_45 : decode prog_6_method_9_code 45 = .ok (.aload 4, 2) := by decide +kernel
theorem d_Jg_lookAtPolicies_47 : decode prog_6_method_9_code 47 = .ok (.getfield 94, 3) := by decide +kernel
theorem d_Jg_lookAtPolicies_50 : decode prog_6_method_9_code 50 = .ok (.iconst 5, 1) := by decide +kernel
theorem d_Jg_lookAtPolicies_51 : decode prog_6_method_9_code 51 = .ok (.if_icmp .eq (6), 3) := by decide +kernel
theorem d_Jg_lookAtPolicies_54 : decode prog_6_method_9_code 54 = .ok (.goto (46), 3) := by decide +kernel
theorem d_Jg_lookAtPolicies_57 : decode prog_6_method_9_code 57 = .ok (.aload_n 0, 1) := by decide +kernel
theorem d_Jg_lookAtPolicies_58 : decode prog_6_method_9_code 58 = .ok (.aload 4, 2) := by decide +kernel
theorem d_Jg_lookAtPolicies_60 : decode prog_6_method_9_code 60 = .ok (.iconst 4, 1) := by decide +kernel
theorem d_Jg_lookAtPolicies_61 : decode prog_6_method_9_code 61 = .ok (.invokevirtual 113, 3) := by decide +kernel
theorem d_Jg_lookAtPolicies_64 : decode prog_6_method_9_code 64 = .ok (.aload_n 0, 1) := by decide +kernel
theorem d_Jg_lookAtPolicies_65 : decode prog_6_method_9_code 65 = .ok (.getfield 117, 3) := by decide +kernel
theorem d_Jg_lookAtPolicies_68 : decode prog_6_method_9_code 68 = .ok (.ifCond .eq (6), 3) := by decide +kernel
theorem d_Jg_lookAtPolicies_71 : decode prog_6_method_9_code 71 = .ok (.bipush (-3), 2) := by decide +kernel
theorem d_Jg_lookAtPolicies_73 : decode prog_6_method_9_code 73 = .ok (.ireturn, 1) := by decide +kernel
theorem d_Jg_lookAtPolicies_74 : decode prog_6_method_9_code 74 = .ok (.aload_n 0, 1) := by decide +kernel
theorem d_Jg_lookAtPolicies_75 : decode prog_6_method_9_code 75 = .ok (.getfield 120, 3) := by decide +kernel
theorem d_Jg_lookAtPolicies_78 : decode prog_6_method_9_code 78 = .ok (.ifCond .eq (19), 3) := by decide +kernel
theorem d_Jg_lookAtPolicies_81 : decode prog_6_method_9_code 81 = .ok (.aload 4, 2) := by decide +kernel
theorem d_Jg_lookAtPolicies_83 : decode prog_6_method_9_code 83 = .ok (.getfield 94, 3) := by decide +kernel
theorem d_Jg_lookAtPolicies_86 : decode prog_6_method_9_code 86 = .ok (.iconst 4, 1) := by decide +kernel
theorem d_Jg_lookAtPolicies_87 : decode prog_6_method_9_code 87 = .ok (.if_icmp .ne (7), 3) := by decide +kernel
theorem d_Jg_lookAtPolicies_90 : decode prog_6_method_9_code 90 = .ok (.iload_n 2, 1) := by decide +kernel
theorem d_Jg_lookAtPolicies_91 : decode prog_6_method_9_code 91 = .ok (.goto (5), 3) := by decide +kernel
theorem d_Jg_lookAtPolicies_94 : decode prog_6_method_9_code 94 = .ok (.bipush (-5), 2) := by decide +kernel
theorem d_Jg_lookAtPolicies_96 : decode prog_6_method_9_code 96 = .ok (.ireturn, 1) := by decide +kernel
theorem d_Jg_lookAtPolicies_97 : decode prog_6_method_9_code 97 = .ok (.iinc 2 (1), 3) := by decide +kernel
theorem d_Jg_lookAtPolicies_100 : decode prog_6_method_9_code 100 = .ok (.iinc 3 (1), 3) := by decide +kernel
theorem d_Jg_lookAtPolicies_103 : decode prog_6_method_9_code 103 = .ok (.goto (-89), 3) := by decide +kernel
theorem d_Jg_lookAtPolicies_106 : decode prog_6_method_9_code 106 = .ok (.bipush (-6), 2) := by decide +kernel
theorem d_Jg_lookAtPolicies_108 : decode prog_6_method_9_code 108 = .ok (.ireturn, 1) := by decide +kernel
theorem d_Lw_fact_0 : decode method_10_code 0 = .ok (.aload_n 3, 1) := by decide +kernel
theorem d_Lw_fact_1 : decode method_10_code 1 = .ok (.iconst 0, 1) := by decide +kernel
theorem d_Lw_fact_2 : decode method_10_code 2 = .ok (.aload_n 0, 1) := by decide +kernel
theorem d_Lw_fact_3 : decode method_10_code 3 = .ok (.iload_n 1, 1) := by decide +kernel
theorem d_Lw_fact_4 : decode method_10_code 4 = .ok (.iload_n 2, 1) := by decide +kernel
theorem d_Lw_fact_5 : decode method_10_code 5 = .ok (.invokevirtual 42, 3) := by decide +kernel
theorem d_Lw_fact_8 : decode method_10_code 8 = .ok (.i2l, 1) := by decide +kernel
theorem d_Lw_fact_9 : decode method_10_code 9 = .ok (.lastore, 1) := by decide +kernel
theorem d_Lw_fact_10 : decode method_10_code 10 = .ok (.goto (7), 3) := by decide +kernel
theorem d_Lw_fact_13 : decode method_10_code 13 = .ok (.astore 4, 2) := by decide +kernel
theorem d_Lw_fact_15 : decode method_10_code 15 = .ok (.iconst 1, 1) := by decide +kernel
theorem d_Lw_fact_16 : decode method_10_code 16 = .ok (.ireturn, 1) := by decide +kernel
theorem d_Lw_fact_17 : decode method_10_code 17 = .ok (.iconst 0, 1) := by decide +kernel
theorem d_Lw_fact_18 : decode method_10_code 18 = .ok (.ireturn, 1) := by decide +kernel
theorem d_GC_fact_0 : decode prog_1_method_14_code 0 = .ok (.iload_n 1, 1) := by decide +kernel
theorem d_GC_fact_1 : decode prog_1_method_14_code 1 = .ok (.ifCond .lt (26), 3) := by decide +kernel
theorem d_GC_fact_4 : decode prog_1_method_14_code 4 = .ok (.iload_n 1, 1) := by decide +kernel
theorem d_GC_fact_5 : decode prog_1_method_14_code 5 = .ok (.aload_n 0, 1) := by decide +kernel
theorem d_GC_fact_6 : decode prog_1_method_14_code 6 = .ok (.getfield 26, 3) := by decide +kernel
theorem d_GC_fact_9 : decode prog_1_method_14_code 9 = .ok (.getfield 202, 3) := by decide +kernel
theorem d_GC_fact_12 : decode prog_1_method_14_code 12 = .ok (.getfield 206, 3) := by decide +kernel
theorem d_GC_fact_15 : decode prog_1_method_14_code 15 = .ok (.if_icmp .ge (12), 3) := by decide +kernel
theorem d_GC_fact_18 : decode prog_1_method_14_code 18 = .ok (.iload_n 2, 1) := by decide +kernel
theorem d_GC_fact_19 : decode prog_1_method_14_code 19 = .ok (.ifCond .lt (8), 3) := by decide +kernel
theorem d_GC_fact_22 : decode prog_1_method_14_code 22 = .ok (.iload_n 2, 1) := by decide +kernel
theorem d_GC_fact_23 : decode prog_1_method_14_code 23 = .ok (.iconst 5, 1) := by decide +kernel
theorem d_GC_fact_24 : decode prog_1_method_14_code 24 = .ok (.if_icmp .lt (11), 3) := by decide +kernel
theorem d_GC_fact_27 : decode prog_1_method_14_code 27 = .ok (.new 115, 3) := by decide +kernel
theorem d_GC_fact_30 : decode prog_1_method_14_code 30 = .ok (.dup, 1) := by decide +kernel
theorem d_GC_fact_31 : decode prog_1_method_14_code 31 = .ok (.invokespecial 117, 3) := by decide +kernel
theorem d_GC_fact_34 : decode prog_1_method_14_code 34 = .ok (.athrow, 1) := by decide +kernel
theorem d_GC_fact_35 : decode prog_1_method_14_code 35 = .ok (.aload_n 0, 1) := by decide +kernel
theorem d_GC_fact_36 : decode prog_1_method_14_code 36 = .ok (.getfield 26, 3) := by decide +kernel
theorem d_GC_fact_39 : decode prog_1_method_14_code 39 = .ok (.getfield 202, 3) := by decide +kernel
theorem d_GC_fact_42 : decode prog_1_method_14_code 42 = .ok (.getfield 216, 3) := by decide +kernel
theorem d_GC_fact_45 : decode prog_1_method_14_code 45 = .ok (.iload_n 1, 1) := by decide +kernel
theorem d_GC_fact_46 : decode prog_1_method_14_code 46 = .ok (.aaload, 1) := by decide +kernel
theorem d_GC_fact_47 : decode prog_1_method_14_code 47 = .ok (.iload_n 2, 1) := by decide +kernel
theorem d_GC_fact_48 : decode prog_1_method_14_code 48 = .ok (.iaload, 1) := by decide +kernel
theorem d_GC_fact_49 : decode prog_1_method_14_code 49 = .ok (.ireturn, 1) := by decide +kernel
theorem d_Lw_token_0 : decode method_11_code 0 = .ok (.aload_n 3, 1) := by decide +kernel
theorem d_Lw_token_1 : decode method_11_code 1 = .ok (.iconst 0, 1) := by decide +kernel
theorem d_Lw_token_2 : decode method_11_code 2 = .ok (.aload_n 0, 1) := by decide +kernel
theorem d_Lw_token_3 : decode method_11_code 3 = .ok (.iload_n 1, 1) := by decide +kernel
theorem d_Lw_token_4 : decode method_11_code 4 = .ok (.iload_n 2, 1) := by decide +kernel
theorem d_Lw_token_5 : decode method_11_code 5 = .ok (.invokevirtual 45, 3) := by decide +kernel
theorem d_Lw_token_8 : decode method_11_code 8 = .ok (.i2l, 1) := by decide +kernel
theorem d_Lw_token_9 : decode method_11_code 9 = .ok (.lastore, 1) := by decide +kernel
theorem d_Lw_token_10 : decode method_11_code 10 = .ok (.goto (7), 3) := by decide +kernel
theorem d_Lw_token_13 : decode method_11_code 13 = .ok (.astore 4, 2) := by decide +kernel
theorem d_Lw_token_15 : decode method_11_code 15 = .ok (.iconst 1, 1) := by decide +kernel
theorem d_Lw_token_16 : decode method_11_code 16 = .ok (.ireturn, 1) := by decide +kernel
theorem d_Lw_token_17 : decode method_11_code 17 = .ok (.iconst 0, 1) := by decide +kernel
theorem d_Lw_token_18 : decode method_11_code 18 = .ok (.ireturn, 1) := by decide +kernel
theorem d_GC_token_0 : decode prog_1_method_15_code 0 = .ok (.aload_n 0, 1) := by decide +kernel
theorem d_GC_token_1 : decode prog_1_method_15_code 1 = .ok (.iload_n 1, 1) := by decide +kernel
theorem d_GC_token_2 : decode prog_1_method_15_code 2 = .ok (.invokevirtual 112, 3) := by decide +kernel
theorem d_GC_token_5 : decode prog_1_method_15_code 5 = .ok (.ifCond .eq (7), 3) := by decide +kernel
theorem d_GC_token_8 : decode prog_1_method_15_code 8 = .ok (.iload_n 2, 1) := by decide +kernel
theorem d_GC_token_9 : decode prog_1_method_15_code 9 = .ok (.ifCond .ge (11), 3) := by decide +kernel
theorem d_GC_token_12 : decode prog_1_method_15_code 12 = .ok (.new 115, 3) := by decide +kernel
theorem d_GC_token_15 : decode prog_1_method_15_code 15 = .ok (.dup, 1) := by decide +kernel
theorem d_GC_token_16 : decode prog_1_method_15_code 16 = .ok (.invokespecial 117, 3) := by decide +kernel
theorem d_GC_token_19 : decode prog_1_method_15_code 19 = .ok (.athrow, 1) := by decide +kernel
theorem d_GC_token_20 : decode prog_1_method_15_code 20 = .ok (.aload_n 0, 1) := by decide +kernel
theorem d_GC_token_21 : decode prog_1_method_15_code 21 = .ok (.getfield 44, 3) := by decide +kernel
theorem d_GC_token_24 : decode prog_1_method_15_code 24 = .ok (.iload_n 1, 1) := by decide +kernel
theorem d_GC_token_25 : decode prog_1_method_15_code 25 = .ok (.invokeinterface 118 2, 5) := by decide +kernel
theorem d_GC_token_30 : decode prog_1_method_15_code 30 = .ok (.checkcast 105, 3) := by decide +kernel
theorem d_GC_token_33 : decode prog_1_method_15_code 33 = .ok (.astore_n 3, 1) := by decide +kernel
theorem d_GC_token_34 : decode prog_1_method_15_code 34 = .ok (.iload_n 2, 1) := by decide +kernel
theorem d_GC_token_35 : decode prog_1_method_15_code 35 = .ok (.bipush (10), 2) := by decide +kernel
theorem d_GC_token_37 : decode prog_1_method_15_code 37 = .ok (.idiv, 1) := by decide +kernel
theorem d_GC_token_38 : decode prog_1_method_15_code 38 = .ok (.istore 4, 2) := by decide +kernel
theorem d_GC_token_40 : decode prog_1_method_15_code 40 = .ok (.iload_n 2, 1) := by decide +kernel
theorem d_GC_token_41 : decode prog_1_method_15_code 41 = .ok (.bipush (10), 2) := by decide +kernel
theorem d_GC_token_43 : decode prog_1_method_15_code 43 = .ok (.irem, 1) := by decide +kernel
theorem d_GC_token_44 : decode prog_1_method_15_code 44 = .ok (.istore 5, 2) := by decide +kernel
theorem d_GC_token_46 : decode prog_1_method_15_code 46 = .ok (.iload 4, 2) := by decide +kernel
theorem d_GC_token_48 : decode prog_1_method_15_code 48 = .ok (.iconst 3, 1) := by decide +kernel
theorem d_GC_token_49 : decode prog_1_method_15_code 49 = .ok (.if_icmp .gt (26), 3) := by decide +kernel
theorem d_GC_token_52 : decode prog_1_method_15_code 52 = .ok (.iload 5, 2) := by decide +kernel
theorem d_GC_token_54 : decode prog_1_method_15_code 54 = .ok (.iload 4, 2) := by decide +kernel
theorem d_GC_token_56 : decode prog_1_method_15_code 56 = .ok (.ifCond .ne (7), 3) := by decide +kernel
theorem d_GC_token_59 : decode prog_1_method_15_code 59 = .ok (.iconst 3, 1) := by decide +kernel
theorem d_GC_token_60 : decode prog_1_method_15_code 60 = .ok (.goto (12), 3) := by decide +kernel
theorem d_GC_token_63 : decode prog_1_method_15_code 63 = .ok (.aload_n 3, 1) := by decide +kernel
theorem d_GC_token_64 : decode prog_1_method_15_code 64 = .ok (.getfield 126, 3) := by decide +kernel
theorem d_GC_token_67 : decode prog_1_method_15_code 67 = .ok (.invokeinterface 85 1, 5) := by decide +kernel
theorem d_GC_token_72 : decode prog_1_method_15_code 72 = .ok (.if_icmp .lt (11), 3) := by decide +kernel
theorem d_GC_token_75 : decode prog_1_method_15_code 75 = .ok (.new 115, 3) := by decide +kernel
theorem d_GC_token_78 : decode prog_1_method_15_code 78 = .ok (.dup, 1) := by decide +kernel
theorem d_GC_token_79 : decode prog_1_method_15_code 79 = .ok (.invokespecial 117, 3) := by decide +kernel
theorem d_GC_token_82 : decode prog_1_method_15_code 82 = .ok (.athrow, 1) := by decide +kernel
theorem d_GC_token_83 : decode prog_1_method_15_code 83 = .ok (.iload 4, 2) := by decide +kernel
theorem d_GC_token_85 : decode prog_1_method_15_code 85 = .ok (.ifCond .ne (12), 3) := by decide +kernel
theorem d_GC_token_88 : decode prog_1_method_15_code 88 = .ok (.aload_n 3, 1) := by decide +kernel
theorem d_GC_token_89 : decode prog_1_method_15_code 89 = .ok (.iload 5, 2) := by decide +kernel
theorem d_GC_token_91 : decode prog_1_method_15_code 91 = .ok (.invokevirtual 220, 3) := by decide +kernel
theorem d_GC_token_94 : decode prog_1_method_15_code 94 = .ok (.goto (22), 3) := by decide +kernel
theorem d_GC_token_97 : decode prog_1_method_15_code 97 = .ok (.aload_n 3, 1) := by decide +kernel
theorem d_GC_token_98 : decode prog_1_method_15_code 98 = .ok (.getfield 126, 3) := by decide +kernel
theorem d_GC_token_101 : decode prog_1_method_15_code 101 = .ok (.iload 5, 2) := by decide +kernel
theorem d_GC_token_103 : decode prog_1_method_15_code 103 = .ok (.invokeinterface 118 2, 5) := by decide +kernel
theorem d_GC_token_108 : decode prog_1_method_15_code 108 = .ok (.checkcast 158, 3) := by decide +kernel
theorem d_GC_token_111 : decode prog_1_method_15_code 111 = .ok (.iload 4, 2) := by decide +kernel
theorem d_GC_token_113 : decode prog_1_method_15_code 113 = .ok (.invokevirtual 223, 3) := by decide +kernel
theorem d_GC_token_116 : decode prog_1_method_15_code 116 = .ok (.ireturn, 1) := by decide +kernel
theorem d_Tk_tell_0 : decode prog_10_method_10_code 0 = .ok (.iload_n 1, 1) := by decide +kernel
theorem d_Tk_tell_1 : decode prog_10_method_10_code 1 = .ok (.ifCond .ne (15), 3) := by decide +kernel
theorem d_Tk_tell_4 : decode prog_10_method_10_code 4 = .ok (.aload_n 0, 1) := by decide +kernel
theorem d_Tk_tell_5 : decode prog_10_method_10_code 5 = .ok (.getfield 10, 3) := by decide +kernel
theorem d_Tk_tell_8 : decode prog_10_method_10_code 8 = .ok (.invokeinterface 17 1, 5) := by decide +kernel
theorem d_Tk_tell_13 : decode prog_10_method_10_code 13 = .ok (.goto (27), 3) := by decide +kernel
theorem d_Tk_tell_16 : decode prog_10_method_10_code 16 = .ok (.iload_n 1, 1) := by decide +kernel
theorem d_Tk_tell_17 : decode prog_10_method_10_code 17 = .ok (.iconst 1, 1) := by decide +kernel
theorem d_Tk_tell_18 : decode prog_10_method_10_code 18 = .ok (.if_icmp .ne (18), 3) := by decide +kernel
theorem d_Tk_tell_21 : decode prog_10_method_10_code 21 = .ok (.aload_n 0, 1) := by decide +kernel
theorem d_Tk_tell_22 : decode prog_10_method_10_code 22 = .ok (.getfield 33, 3) := by decide +kernel
theorem d_Tk_tell_25 : decode prog_10_method_10_code 25 = .ok (.ifCond .eq (7), 3) := by decide +kernel
theorem d_Tk_tell_28 : decode prog_10_method_10_code 28 = .ok (.iconst 1, 1) := by decide +kernel
theorem d_Tk_tell_29 : decode prog_10_method_10_code 29 = .ok (.goto (11), 3) := by decide +kernel
theorem d_Tk_tell_32 : decode prog_10_method_10_code 32 = .ok (.iconst 0, 1) := by decide +kernel
theorem d_Tk_tell_33 : decode prog_10_method_10_code 33 = .ok (.goto (7), 3) := by decide +kernel
theorem d_Tk_tell_36 : decode prog_10_method_10_code 36 = .ok (.aload_n 0, 1) := by decide +kernel
theorem d_Tk_tell_37 : decode prog_10_method_10_code 37 = .ok (.getfield 37, 3) := by decide +kernel
theorem d_Tk_tell_40 : decode prog_10_method_10_code 40 = .ok (.ireturn, 1) := by decide +kernel
theorem d_Lk_tell_0 : decode prog_8_method_3_code 0 = .ok (.iload_n 1, 1) := by decide +kernel
theorem d_Lk_tell_1 : decode prog_8_method_3_code 1 = .ok (.iconst 1, 1) := by decide +kernel
theorem d_Lk_tell_2 : decode prog_8_method_3_code 2 = .ok (.if_icmp .ne (10), 3) := by decide +kernel
theorem d_Lk_tell_5 : decode prog_8_method_3_code 5 = .ok (.aload_n 0, 1) := by decide +kernel
theorem d_Lk_tell_6 : decode prog_8_method_3_code 6 = .ok (.getfield 7, 3) := by decide +kernel
theorem d_Lk_tell_9 : decode prog_8_method_3_code 9 = .ok (.goto (19), 3) := by decide +kernel
theorem d_Lk_tell_12 : decode prog_8_method_3_code 12 = .ok (.iload_n 1, 1) := by decide +kernel
theorem d_Lk_tell_13 : decode prog_8_method_3_code 13 = .ok (.iconst 2, 1) := by decide +kernel
theorem d_Lk_tell_14 : decode prog_8_method_3_code 14 = .ok (.if_icmp .ne (10), 3) := by decide +kernel
theorem d_Lk_tell_17 : decode prog_8_method_3_code 17 = .ok (.aload_n 0, 1) := by decide +kernel
theorem d_Lk_tell_18 : decode prog_8_method_3_code 18 = .ok (.getfield 13, 3) := by decide +kernel
theorem d_Lk_tell_21 : decode prog_8_method_3_code 21 = .ok (.goto (7), 3) := by decide +kernel
theorem d_Lk_tell_24 : decode prog_8_method_3_code 24 = .ok (.aload_n 0, 1) := by decide +kernel
theorem d_Lk_tell_25 : decode prog_8_method_3_code 25 = .ok (.getfield 16, 3) := by decide +kernel
theorem d_Lk_tell_28 : decode prog_8_method_3_code 28 = .ok (.ireturn, 1) := by decide +kernel
