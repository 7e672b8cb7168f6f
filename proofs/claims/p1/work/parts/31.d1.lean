theorem d_Ln_digits_0 : decode prog_7_method_5_code 0 = .ok (.iconst 0, 1) := by decide +kernel
theorem d_Ln_digits_1 : decode prog_7_method_5_code 1 = .ok (.istore_n 1, 1) := by decide +kernel
theorem d_Ln_digits_2 : decode prog_7_method_5_code 2 = .ok (.aload_n 0, 1) := by decide +kernel
theorem d_Ln_digits_3 : decode prog_7_method_5_code 3 = .ok (.getfield 19, 3) := by decide +kernel
theorem d_Ln_digits_6 : decode prog_7_method_5_code 6 = .ok (.istore_n 2, 1) := by decide +kernel
theorem d_Ln_digits_7 : decode prog_7_method_5_code 7 = .ok (.iload_n 2, 1) := by decide +kernel
theorem d_Ln_digits_8 : decode prog_7_method_5_code 8 = .ok (.istore_n 3, 1) := by decide +kernel
theorem d_Ln_digits_9 : decode prog_7_method_5_code 9 = .ok (.iload_n 3, 1) := by decide +kernel
theorem d_Ln_digits_10 : decode prog_7_method_5_code 10 = .ok (.aload_n 0, 1) := by decide +kernel
theorem d_Ln_digits_11 : decode prog_7_method_5_code 11 = .ok (.getfield 15, 3) := by decide +kernel
theorem d_Ln_digits_14 : decode prog_7_method_5_code 14 = .ok (.if_icmp .ge (62), 3) := by decide +kernel
theorem d_Ln_digits_17 : decode prog_7_method_5_code 17 = .ok (.aload_n 0, 1) := by decide +kernel
theorem d_Ln_digits_18 : decode prog_7_method_5_code 18 = .ok (.getfield 9, 3) := by decide +kernel
theorem d_Ln_digits_21 : decode prog_7_method_5_code 21 = .ok (.iload_n 3, 1) := by decide +kernel
theorem d_Ln_digits_22 : decode prog_7_method_5_code 22 = .ok (.caload, 1) := by decide +kernel
theorem d_Ln_digits_23 : decode prog_7_method_5_code 23 = .ok (.bipush (48), 2) := by decide +kernel
theorem d_Ln_digits_25 : decode prog_7_method_5_code 25 = .ok (.if_icmp .lt (51), 3) := by decide +kernel
theorem d_Ln_digits_28 : decode prog_7_method_5_code 28 = .ok (.aload_n 0, 1) := by decide +kernel
theorem d_Ln_digits_29 : decode prog_7_method_5_code 29 = .ok (.getfield 9, 3) := by decide +kernel
theorem d_Ln_digits_32 : decode prog_7_method_5_code 32 = .ok (.iload_n 3, 1) := by decide +kernel
theorem d_Ln_digits_33 : decode prog_7_method_5_code 33 = .ok (.caload, 1) := by decide +kernel
theorem d_Ln_digits_34 : decode prog_7_method_5_code 34 = .ok (.bipush (57), 2) := by decide +kernel
theorem d_Ln_digits_36 : decode prog_7_method_5_code 36 = .ok (.if_icmp .gt (40), 3) := by decide +kernel
theorem d_Ln_digits_39 : decode prog_7_method_5_code 39 = .ok (.iload_n 3, 1) := by decide +kernel
theorem d_Ln_digits_40 : decode prog_7_method_5_code 40 = .ok (.iload_n 2, 1) := by decide +kernel
theorem d_Ln_digits_41 : decode prog_7_method_5_code 41 = .ok (.isub, 1) := by decide +kernel
theorem d_Ln_digits_42 : decode prog_7_method_5_code 42 = .ok (.iconst 4, 1) := by decide +kernel
theorem d_Ln_digits_43 : decode prog_7_method_5_code 43 = .ok (.if_icmp .lt (5), 3) := by decide +kernel
theorem d_Ln_digits_46 : decode prog_7_method_5_code 46 = .ok (.iconst (-1), 1) := by decide +kernel
theorem d_Ln_digits_47 : decode prog_7_method_5_code 47 = .ok (.ireturn, 1) := by decide +kernel
theorem d_Ln_digits_48 : decode prog_7_method_5_code 48 = .ok (.iload_n 1, 1) := by decide +kernel
theorem d_Ln_digits_49 : decode prog_7_method_5_code 49 = .ok (.bipush (10), 2) := by decide +kernel
theorem d_Ln_digits_51 : decode prog_7_method_5_code 51 = .ok (.imul, 1) := by decide +kernel
theorem d_Ln_digits_52 : decode prog_7_method_5_code 52 = .ok (.aload_n 0, 1) := by decide +kernel
theorem d_Ln_digits_53 : decode prog_7_method_5_code 53 = .ok (.getfield 9, 3) := by decide +kernel
theorem d_Ln_digits_56 : decode prog_7_method_5_code 56 = .ok (.iload_n 3, 1) := by decide +kernel
theorem d_Ln_digits_57 : decode prog_7_method_5_code 57 = .ok (.caload, 1) := by decide +kernel
theorem d_Ln_digits_58 : decode prog_7_method_5_code 58 = .ok (.bipush (48), 2) := by decide +kernel
theorem d_Ln_digits_60 : decode prog_7_method_5_code 60 = .ok (.isub, 1) := by decide +kernel
theorem d_Ln_digits_61 : decode prog_7_method_5_code 61 = .ok (.iadd, 1) := by decide +kernel
theorem d_Ln_digits_62 : decode prog_7_method_5_code 62 = .ok (.istore_n 1, 1) := by decide +kernel
theorem d_Ln_digits_63 : decode prog_7_method_5_code 63 = .ok (.aload_n 0, 1) := by decide +kernel
theorem d_Ln_digits_64 : decode prog_7_method_5_code 64 = .ok (.iload_n 3, 1) := by decide +kernel
theorem d_Ln_digits_65 : decode prog_7_method_5_code 65 = .ok (.iconst 1, 1) := by decide +kernel
theorem d_Ln_digits_66 : decode prog_7_method_5_code 66 = .ok (.iadd, 1) := by decide +kernel
theorem d_Ln_digits_67 : decode prog_7_method_5_code 67 = .ok (.putfield 19, 3) := by decide +kernel
theorem d_Ln_digits_70 : decode prog_7_method_5_code 70 = .ok (.iinc 3 (1), 3) := by decide +kernel
theorem d_Ln_digits_73 : decode prog_7_method_5_code 73 = .ok (.goto (-64), 3) := by decide +kernel
theorem d_Ln_digits_76 : decode prog_7_method_5_code 76 = .ok (.aload_n 0, 1) := by decide +kernel
theorem d_Ln_digits_77 : decode prog_7_method_5_code 77 = .ok (.getfield 19, 3) := by decide +kernel
theorem d_Ln_digits_80 : decode prog_7_method_5_code 80 = .ok (.iload_n 2, 1) := by decide +kernel
theorem d_Ln_digits_81 : decode prog_7_method_5_code 81 = .ok (.if_icmp .le (7), 3) := by decide +kernel
theorem d_Ln_digits_84 : decode prog_7_method_5_code 84 = .ok (.iload_n 1, 1) := by decide +kernel
theorem d_Ln_digits_85 : decode prog_7_method_5_code 85 = .ok (.goto (4), 3) := by decide +kernel
theorem d_Ln_digits_88 : decode prog_7_method_5_code 88 = .ok (.iconst (-1), 1) := by decide +kernel
theorem d_Ln_digits_89 : decode prog_7_method_5_code 89 = .ok (.ireturn, 1) := by decide +kernel
theorem d_At_variables_0 : decode prog_2_method_2_code 0 = .ok (.aload_n 0, 1) := by decide +kernel
theorem d_At_variables_1 : decode prog_2_method_2_code 1 = .ok (.getfield 18, 3) := by decide +kernel
theorem d_At_variables_4 : decode prog_2_method_2_code 4 = .ok (.invokestatic 24, 3) := by decide +kernel
theorem d_At_variables_7 : decode prog_2_method_2_code 7 = .ok (.aload_n 0, 1) := by decide +kernel
theorem d_At_variables_8 : decode prog_2_method_2_code 8 = .ok (.getfield 21, 3) := by decide +kernel
theorem d_At_variables_11 : decode prog_2_method_2_code 11 = .ok (.invokestatic 24, 3) := by decide +kernel
theorem d_At_variables_14 : decode prog_2_method_2_code 14 = .ok (.ior, 1) := by decide +kernel
theorem d_At_variables_15 : decode prog_2_method_2_code 15 = .ok (.ireturn, 1) := by decide +kernel
theorem d_At_bit_0 : decode prog_2_method_3_code 0 = .ok (.iload_n 0, 1) := by decide +kernel
theorem d_At_bit_1 : decode prog_2_method_3_code 1 = .ok (.ldc 28, 2) := by decide +kernel
theorem d_At_bit_3 : decode prog_2_method_3_code 3 = .ok (.if_icmp .lt (12), 3) := by decide +kernel
theorem d_At_bit_6 : decode prog_2_method_3_code 6 = .ok (.iconst 1, 1) := by decide +kernel
theorem d_At_bit_7 : decode prog_2_method_3_code 7 = .ok (.iload_n 0, 1) := by decide +kernel
theorem d_At_bit_8 : decode prog_2_method_3_code 8 = .ok (.ldc 28, 2) := by decide +kernel
theorem d_At_bit_10 : decode prog_2_method_3_code 10 = .ok (.isub, 1) := by decide +kernel
theorem d_At_bit_11 : decode prog_2_method_3_code 11 = .ok (.ishl, 1) := by decide +kernel
theorem d_At_bit_12 : decode prog_2_method_3_code 12 = .ok (.goto (4), 3) := by decide +kernel
theorem d_At_bit_15 : decode prog_2_method_3_code 15 = .ok (.iconst 0, 1) := by decide +kernel
theorem d_At_bit_16 : decode prog_2_method_3_code 16 = .ok (.ireturn, 1) := by decide +kernel
theorem d_Rd_readBody_0 : decode prog_9_method_6_code 0 = .ok (.iconst 0, 1) := by decide +kernel
theorem d_Rd_readBody_1 : decode prog_9_method_6_code 1 = .ok (.istore_n 3, 1) := by decide +kernel
theorem d_Rd_readBody_2 : decode prog_9_method_6_code 2 = .ok (.iload_n 3, 1) := by decide +kernel
theorem d_Rd_readBody_3 : decode prog_9_method_6_code 3 = .ok (.iconst 3, 1) := by decide +kernel
theorem d_Rd_readBody_4 : decode prog_9_method_6_code 4 = .ok (.if_icmp .ge (69), 3) := by decide +kernel
theorem d_Rd_readBody_7 : decode prog_9_method_6_code 7 = .ok (.aload_n 1, 1) := by decide +kernel
theorem d_Rd_readBody_8 : decode prog_9_method_6_code 8 = .ok (.invokestatic 34, 3) := by decide +kernel
theorem d_Rd_readBody_11 : decode prog_9_method_6_code 11 = .ok (.astore 4, 2) := by decide +kernel
theorem d_Rd_readBody_13 : decode prog_9_method_6_code 13 = .ok (.aload 4, 2) := by decide +kernel
theorem d_Rd_readBody_15 : decode prog_9_method_6_code 15 = .ok (.ifnonnull (5), 3) := by decide +kernel
theorem d_Rd_readBody_18 : decode prog_9_method_6_code 18 = .ok (.iconst 0, 1) := by decide +kernel
theorem d_Rd_readBody_19 : decode prog_9_method_6_code 19 = .ok (.ireturn, 1) := by decide +kernel
theorem d_Rd_readBody_20 : decode prog_9_method_6_code 20 = .ok (.aload_n 2, 1) := by decide +kernel
theorem d_Rd_readBody_21 : decode prog_9_method_6_code 21 = .ok (.aload 4, 2) := by decide +kernel
theorem d_Rd_readBody_23 : decode prog_9_method_6_code 23 = .ok (.invokeinterface 87 2, 5) := by decide +kernel
theorem d_Rd_readBody_28 : decode prog_9_method_6_code 28 = .ok (.pop, 1) := by decide +kernel
theorem d_Rd_readBody_29 : decode prog_9_method_6_code 29 = .ok (.aload_n 0, 1) := by decide +kernel
theorem d_Rd_readBody_30 : decode prog_9_method_6_code 30 = .ok (.dup, 1) := by decide +kernel
theorem d_Rd_readBody_31 : decode prog_9_method_6_code 31 = .ok (.getfield 27, 3) := by decide +kernel
theorem d_Rd_readBody_34 : decode prog_9_method_6_code 34 = .ok (.aload 4, 2) := by decide +kernel
theorem d_Rd_readBody_36 : decode prog_9_method_6_code 36 = .ok (.invokevirtual 38, 3) := by decide +kernel
theorem d_Rd_readBody_39 : decode prog_9_method_6_code 39 = .ok (.ior, 1) := by decide +kernel
theorem d_Rd_readBody_40 : decode prog_9_method_6_code 40 = .ok (.putfield 27, 3) := by decide +kernel
theorem d_Rd_readBody_43 : decode prog_9_method_6_code 43 = .ok (.aload_n 1, 1) := by decide +kernel
theorem d_Rd_readBody_44 : decode prog_9_method_6_code 44 = .ok (.bipush (44), 2) := by decide +kernel
theorem d_Rd_readBody_46 : decode prog_9_method_6_code 46 = .ok (.invokevirtual 44, 3) := by decide +kernel
theorem d_Rd_readBody_49 : decode prog_9_method_6_code 49 = .ok (.ifCond .ne (5), 3) := by decide +kernel
theorem d_Rd_readBody_52 : decode prog_9_method_6_code 52 = .ok (.iconst 1, 1) := by decide +kernel
theorem d_Rd_readBody_53 : decode prog_9_method_6_code 53 = .ok (.ireturn, 1) := by decide +kernel
theorem d_Rd_readBody_54 : decode prog_9_method_6_code 54 = .ok (.aload_n 1, 1) := by decide +kernel
theorem d_Rd_readBody_55 : decode prog_9_method_6_code 55 = .ok (.invokevirtual 55, 3) := by decide +kernel
theorem d_Rd_readBody_58 : decode prog_9_method_6_code 58 = .ok (.invokestatic 70, 3) := by decide +kernel
theorem d_Rd_readBody_61 : decode prog_9_method_6_code 61 = .ok (.ifCond .ne (6), 3) := by decide +kernel
theorem d_Rd_readBody_64 : decode prog_9_method_6_code 64 = .ok (.goto (9), 3) := by decide +kernel
theorem d_Rd_readBody_67 : decode prog_9_method_6_code 67 = .ok (.iinc 3 (1), 3) := by decide +kernel
theorem d_Rd_readBody_70 : decode prog_9_method_6_code 70 = .ok (.goto (-68), 3) := by decide +kernel
theorem d_Rd_readBody_73 : decode prog_9_method_6_code 73 = .ok (.iconst 0, 1) := by decide +kernel
theorem d_Rd_readBody_74 : decode prog_9_method_6_code 74 = .ok (.istore_n 3, 1) := by decide +kernel
theorem d_Rd_readBody_75 : decode prog_9_method_6_code 75 = .ok (.iload_n 3, 1) := by decide +kernel
theorem d_Rd_readBody_76 : decode prog_9_method_6_code 76 = .ok (.iconst 2, 1) := by decide +kernel
theorem d_Rd_readBody_77 : decode prog_9_method_6_code 77 = .ok (.if_icmp .ge (30), 3) := by decide +kernel
theorem d_Rd_readBody_80 : decode prog_9_method_6_code 80 = .ok (.aload_n 0, 1) := by decide +kernel
theorem d_Rd_readBody_81 : decode prog_9_method_6_code 81 = .ok (.aload_n 1, 1) := by decide +kernel
theorem d_Rd_readBody_82 : decode prog_9_method_6_code 82 = .ok (.invokevirtual 93, 3) := by decide +kernel
theorem d_Rd_readBody_85 : decode prog_9_method_6_code 85 = .ok (.ifCond .ne (5), 3) := by decide +kernel
theorem d_Rd_readBody_88 : decode prog_9_method_6_code 88 = .ok (.iconst 0, 1) := by decide +kernel
theorem d_Rd_readBody_89 : decode prog_9_method_6_code 89 = .ok (.ireturn, 1) := by decide +kernel
theorem d_Rd_readBody_90 : decode prog_9_method_6_code 90 = .ok (.aload_n 1, 1) := by decide +kernel
theorem d_Rd_readBody_91 : decode prog_9_method_6_code 91 = .ok (.bipush (44), 2) := by decide +kernel
theorem d_Rd_readBody_93 : decode prog_9_method_6_code 93 = .ok (.invokevirtual 44, 3) := by decide +kernel
theorem d_Rd_readBody_96 : decode prog_9_method_6_code 96 = .ok (.ifCond .ne (5), 3) := by decide +kernel
theorem d_Rd_readBody_99 : decode prog_9_method_6_code 99 = .ok (.iconst 1, 1) := by decide +kernel
theorem d_Rd_readBody_100 : decode prog_9_method_6_code 100 = .ok (.ireturn, 1) := by decide +kernel
theorem d_Rd_readBody_101 : decode prog_9_method_6_code 101 = .ok (.iinc 3 (1), 3) := by decide +kernel
theorem d_Rd_readBody_104 : decode prog_9_method_6_code 104 = .ok (.goto (-29), 3) := by decide +kernel
theorem d_Rd_readBody_107 : decode prog_9_method_6_code 107 = .ok (.iconst 0, 1) := by decide +kernel
theorem d_Rd_readBody_108 : decode prog_9_method_6_code 108 = .ok (.ireturn, 1) := by decide +kernel
theorem d_AL_add_0 : decode prog_27_method_25_code 0 = .ok (.aload_n 0, 1) := by decide +kernel
theorem d_AL_add_1 : decode prog_27_method_25_code 1 = .ok (.dup, 1) := by decide +kernel
theorem d_AL_add_2 : decode prog_27_method_25_code 2 = .ok (.getfield 63, 3) := by decide +kernel
theorem d_AL_add_5 : decode prog_27_method_25_code 5 = .ok (.iconst 1, 1) := by decide +kernel
theorem d_AL_add_6 : decode prog_27_method_25_code 6 = .ok (.iadd, 1) := by decide +kernel
theorem d_AL_add_7 : decode prog_27_method_25_code 7 = .ok (.putfield 63, 3) := by decide +kernel
theorem d_AL_add_10 : decode prog_27_method_25_code 10 = .ok (.aload_n 0, 1) := by decide +kernel
theorem d_AL_add_11 : decode prog_27_method_25_code 11 = .ok (.aload_n 1, 1) := by decide +kernel
theorem d_AL_add_12 : decode prog_27_method_25_code 12 = .ok (.aload_n 0, 1) := by decide +kernel
theorem d_AL_add_13 : decode prog_27_method_25_code 13 = .ok (.getfield 9, 3) := by decide +kernel
theorem d_AL_add_16 : decode prog_27_method_25_code 16 = .ok (.aload_n 0, 1) := by decide +kernel
theorem d_AL_add_17 : decode prog_27_method_25_code 17 = .ok (.getfield 48, 3) := by decide +kernel
theorem d_AL_add_20 : decode prog_27_method_25_code 20 = .ok (.invokevirtual 131, 3) := by decide +kernel
theorem d_AL_add_23 : decode prog_27_method_25_code 23 = .ok (.iconst 1, 1) := by decide +kernel
theorem d_AL_add_24 : decode prog_27_method_25_code 24 = .ok (.ireturn, 1) := by decide +kernel
theorem d_AL_add2_0 : decode prog_27_method_24_code 0 = .ok (.iload_n 3, 1) := by decide +kernel
theorem d_AL_add2_1 : decode prog_27_method_24_code 1 = .ok (.aload_n 2, 1) := by decide +kernel
theorem d_AL_add2_2 : decode prog_27_method_24_code 2 = .ok (.arraylength, 1) := by decide +kernel
theorem d_AL_add2_3 : decode prog_27_method_24_code 3 = .ok (.if_icmp .ne (8), 3) := by decide +kernel
theorem d_AL_add2_6 : decode prog_27_method_24_code 6 = .ok (.aload_n 0, 1) := by decide +kernel
theorem d_AL_add2_7 : decode prog_27_method_24_code 7 = .ok (.invokevirtual 129, 3) := by decide +kernel
theorem d_AL_add2_10 : decode prog_27_method_24_code 10 = .ok (.astore_n 2, 1) := by decide +kernel
theorem d_AL_add2_11 : decode prog_27_method_24_code 11 = .ok (.aload_n 2, 1) := by decide +kernel
theorem d_AL_add2_12 : decode prog_27_method_24_code 12 = .ok (.iload_n 3, 1) := by decide +kernel
theorem d_AL_add2_13 : decode prog_27_method_24_code 13 = .ok (.aload_n 1, 1) := by decide +kernel
theorem d_AL_add2_14 : decode prog_27_method_24_code 14 = .ok (.aastore, 1) := by decide +kernel
theorem d_AL_add2_15 : decode prog_27_method_24_code 15 = .ok (.aload_n 0, 1) := by decide +kernel
theorem d_AL_add2_16 : decode prog_27_method_24_code 16 = .ok (.iload_n 3, 1) := by decide +kernel
theorem d_AL_add2_17 : decode prog_27_method_24_code 17 = .ok (.iconst 1, 1) := by decide +kernel
theorem d_AL_add2_18 : decode prog_27_method_24_code 18 = .ok (.iadd, 1) := by decide +kernel
theorem d_AL_add2_19 : decode prog_27_method_24_code 19 = .ok (.putfield 48, 3) := by decide +kernel
theorem d_AL_add2_22 : decode prog_27_method_24_code 22 = .ok (.return_, 1) := by decide +kernel
theorem d_AL_grow_0 : decode prog_27_method_7_code 0 = .ok (.aload_n 0, 1) := by decide +kernel
theorem d_AL_grow_1 : decode prog_27_method_7_code 1 = .ok (.aload_n 0, 1) := by decide +kernel
theorem d_AL_grow_2 : decode prog_27_method_7_code 2 = .ok (.getfield 48, 3) := by decide +kernel
theorem d_AL_grow_5 : decode prog_27_method_7_code 5 = .ok (.iconst 1, 1) := by decide +kernel
theorem d_AL_grow_6 : decode prog_27_method_7_code 6 = .ok (.iadd, 1) := by decide +kernel
theorem d_AL_grow_7 : decode prog_27_method_7_code 7 = .ok (.invokevirtual 69, 3) := by decide +kernel
theorem d_AL_grow_10 : decode prog_27_method_7_code 10 = .ok (.areturn, 1) := by decide +kernel
theorem d_AL_grow2_0 : decode prog_27_method_6_code 0 = .ok (.aload_n 0, 1) := by decide +kernel
theorem d_AL_grow2_1 : decode prog_27_method_6_code 1 = .ok (.getfield 9, 3) := by decide +kernel
theorem d_AL_grow2_4 : decode prog_27_method_6_code 4 = .ok (.arraylength, 1) := by decide +kernel
theorem d_AL_grow2_5 : decode prog_27_method_6_code 5 = .ok (.istore_n 2, 1) := by decide +kernel
theorem d_AL_grow2_6 : decode prog_27_method_6_code 6 = .ok (.iload_n 2, 1) := by decide +kernel
theorem d_AL_grow2_7 : decode prog_27_method_6_code 7 = .ok (.ifCond .gt (13), 3) := by decide +kernel
theorem d_AL_grow2_10 : decode prog_27_method_6_code 10 = .ok (.aload_n 0, 1) := by decide +kernel
theorem d_AL_grow2_11 : decode prog_27_method_6_code 11 = .ok (.getfield 9, 3) := by decide +kernel
theorem d_AL_grow2_14 : decode prog_27_method_6_code 14 = .ok (.getstatic 39, 3) := by decide +kernel
theorem d_AL_grow2_17 : decode prog_27_method_6_code 17 = .ok (.if_acmp .eq (28), 3) := by decide +kernel
theorem d_AL_grow2_20 : decode prog_27_method_6_code 20 = .ok (.iload_n 2, 1) := by decide +kernel
theorem d_AL_grow2_21 : decode prog_27_method_6_code 21 = .ok (.iload_n 1, 1) := by decide +kernel
theorem d_AL_grow2_22 : decode prog_27_method_6_code 22 = .ok (.iload_n 2, 1) := by decide +kernel
theorem d_AL_grow2_23 : decode prog_27_method_6_code 23 = .ok (.isub, 1) := by decide +kernel
theorem d_AL_grow2_24 : decode prog_27_method_6_code 24 = .ok (.iload_n 2, 1) := by decide +kernel
theorem d_AL_grow2_25 : decode prog_27_method_6_code 25 = .ok (.iconst 1, 1) := by decide +kernel
theorem d_AL_grow2_26 : decode prog_27_method_6_code 26 = .ok (.ishr, 1) := by decide +kernel
theorem d_AL_grow2_27 : decode prog_27_method_6_code 27 = .ok (.invokestatic 73, 3) := by decide +kernel
theorem d_AL_grow2_30 : decode prog_27_method_6_code 30 = .ok (.istore_n 3, 1) := by decide +kernel
theorem d_AL_grow2_31 : decode prog_27_method_6_code 31 = .ok (.aload_n 0, 1) := by decide +kernel
theorem d_AL_grow2_32 : decode prog_27_method_6_code 32 = .ok (.aload_n 0, 1) := by decide +kernel
theorem d_AL_grow2_33 : decode prog_27_method_6_code 33 = .ok (.getfield 9, 3) := by decide +kernel
theorem d_AL_grow2_36 : decode prog_27_method_6_code 36 = .ok (.iload_n 3, 1) := by decide +kernel
theorem d_AL_grow2_37 : decode prog_27_method_6_code 37 = .ok (.invokestatic 66, 3) := by decide +kernel
theorem d_AL_grow2_40 : decode prog_27_method_6_code 40 = .ok (.dup_x1, 1) := by decide +kernel
theorem d_AL_grow2_41 : decode prog_27_method_6_code 41 = .ok (.putfield 9, 3) := by decide +kernel
theorem d_AL_grow2_44 : decode prog_27_method_6_code 44 = .ok (.areturn, 1) := by decide +kernel
theorem d_AL_grow2_45 : decode prog_27_method_6_code 45 = .ok (.aload_n 0, 1) := by decide +kernel
theorem d_AL_grow2_46 : decode prog_27_method_6_code 46 = .ok (.bipush (10), 2) := by decide +kernel
theorem d_AL_grow2_48 : decode prog_27_method_6_code 48 = .ok (.iload_n 1, 1) := by decide +kernel
theorem d_AL_grow2_49 : decode prog_27_method_6_code 49 = .ok (.invokestatic 79, 3) := by decide +kernel
theorem d_AL_grow2_52 : decode prog_27_method_6_code 52 = .ok (.anewarray 7, 3) := by decide +kernel
theorem d_AL_grow2_55 : decode prog_27_method_6_code 55 = .ok (.dup_x1, 1) := by decide +kernel
theorem d_AL_grow2_56 : decode prog_27_method_6_code 56 = .ok (.putfield 9, 3) := by decide +kernel
theorem d_AL_grow2_59 : decode prog_27_method_6_code 59 = .ok (.areturn, 1) := by decide +kernel
theorem d_AS_newLength_0 : decode prog_34_method_27_code 0 = .ok (.iload_n 0, 1) := by decide +kernel
theorem d_AS_newLength_1 : decode prog_34_method_27_code 1 = .ok (.iload_n 1, 1) := by decide +kernel
theorem d_AS_newLength_2 : decode prog_34_method_27_code 2 = .ok (.iload_n 2, 1) := by decide +kernel
theorem d_AS_newLength_3 : decode prog_34_method_27_code 3 = .ok (.invokestatic 194, 3) := by decide +kernel
theorem d_AS_newLength_6 : decode prog_34_method_27_code 6 = .ok (.iadd, 1) := by decide +kernel
theorem d_AS_newLength_7 : decode prog_34_method_27_code 7 = .ok (.istore_n 3, 1) := by decide +kernel
theorem d_AS_newLength_8 : decode prog_34_method_27_code 8 = .ok (.iconst 0, 1) := by decide +kernel
theorem d_AS_newLength_9 : decode prog_34_method_27_code 9 = .ok (.iload_n 3, 1) := by decide +kernel
theorem d_AS_newLength_10 : decode prog_34_method_27_code 10 = .ok (.if_icmp .ge (11), 3) := by decide +kernel
theorem d_AS_newLength_13 : decode prog_34_method_27_code 13 = .ok (.iload_n 3, 1) := by decide +kernel
theorem d_AS_newLength_14 : decode prog_34_method_27_code 14 = .ok (.ldc 200, 2) := by decide +kernel
theorem d_AS_newLength_16 : decode prog_34_method_27_code 16 = .ok (.if_icmp .gt (5), 3) := by decide +kernel
theorem d_AS_newLength_19 : decode prog_34_method_27_code 19 = .ok (.iload_n 3, 1) := by decide +kernel
theorem d_AS_newLength_20 : decode prog_34_method_27_code 20 = .ok (.ireturn, 1) := by decide +kernel
theorem d_AS_newLength_21 : decode prog_34_method_27_code 21 = .ok (.iload_n 0, 1) := by decide +kernel
theorem d_AS_newLength_22 : decode prog_34_method_27_code 22 = .ok (.iload_n 1, 1) := by decide +kernel
theorem d_AS_newLength_23 : decode prog_34_method_27_code 23 = .ok (.invokestatic 201, 3) := by decide +kernel
theorem d_AS_newLength_26 : decode prog_34_method_27_code 26 = .ok (.ireturn, 1) := by decide +kernel
theorem d_Ma_max_0 : decode prog_20_method_65_code 0 = .ok (.iload_n 0, 1) := by decide +kernel
theorem d_Ma_max_1 : decode prog_20_method_65_code 1 = .ok (.iload_n 1, 1) := by decide +kernel
theorem d_Ma_max_2 : decode prog_20_method_65_code 2 = .ok (.if_icmp .lt (7), 3) := by decide +kernel
theorem d_Ma_max_5 : decode prog_20_method_65_code 5 = .ok (.iload_n 0, 1) := by decide +kernel
theorem d_Ma_max_6 : decode prog_20_method_65_code 6 = .ok (.goto (4), 3) := by decide +kernel
theorem d_Ma_max_9 : decode prog_20_method_65_code 9 = .ok (.iload_n 1, 1) := by decide +kernel
theorem d_Ma_max_10 : decode prog_20_method_65_code 10 = .ok (.ireturn, 1) := by decide +kernel
theorem d_AS_hugeLength_0 : decode prog_34_method_28_code 0 = .ok (.iload_n 0, 1) := by decide +kernel
theorem d_AS_hugeLength_1 : decode prog_34_method_28_code 1 = .ok (.iload_n 1, 1) := by decide +kernel
theorem d_AS_hugeLength_2 : decode prog_34_method_28_code 2 = .ok (.iadd, 1) := by decide +kernel
theorem d_AS_hugeLength_3 : decode prog_34_method_28_code 3 = .ok (.istore_n 2, 1) := by decide +kernel
theorem d_AS_hugeLength_4 : decode prog_34_method_28_code 4 = .ok (.iload_n 2, 1) := by decide +kernel
theorem d_AS_hugeLength_5 : decode prog_34_method_28_code 5 = .ok (.ifCond .ge (44), 3) := by decide +kernel
theorem d_AS_hugeLength_8 : decode prog_34_method_28_code 8 = .ok (.new 204, 3) := by decide +kernel
theorem d_AS_hugeLength_11 : decode prog_34_method_28_code 11 = .ok (.dup, 1) := by decide +kernel
theorem d_AS_hugeLength_12 : decode prog_34_method_28_code 12 = .ok (.new 89, 3) := by decide +kernel
theorem d_AS_hugeLength_15 : decode prog_34_method_28_code 15 = .ok (.dup, 1) := by decide +kernel
theorem d_AS_hugeLength_16 : decode prog_34_method_28_code 16 = .ok (.invokespecial 91, 3) := by decide +kernel
theorem d_AS_hugeLength_19 : decode prog_34_method_28_code 19 = .ok (.ldc 206, 2) := by decide +kernel
theorem d_AS_hugeLength_21 : decode prog_34_method_28_code 21 = .ok (.invokevirtual 94, 3) := by decide +kernel
theorem d_AS_hugeLength_24 : decode prog_34_method_28_code 24 = .ok (.iload_n 0, 1) := by decide +kernel
theorem d_AS_hugeLength_25 : decode prog_34_method_28_code 25 = .ok (.invokevirtual 98, 3) := by decide +kernel
theorem d_AS_hugeLength_28 : decode prog_34_method_28_code 28 = .ok (.ldc 208, 2) := by decide +kernel
theorem d_AS_hugeLength_30 : decode prog_34_method_28_code 30 = .ok (.invokevirtual 94, 3) := by decide +kernel
theorem d_AS_hugeLength_33 : decode prog_34_method_28_code 33 = .ok (.iload_n 1, 1) := by decide +kernel
theorem d_AS_hugeLength_34 : decode prog_34_method_28_code 34 = .ok (.invokevirtual 98, 3) := by decide +kernel
theorem d_AS_hugeLength_37 : decode prog_34_method_28_code 37 = .ok (.ldc 210, 2) := by decide +kernel
theorem d_AS_hugeLength_39 : decode prog_34_method_28_code 39 = .ok (.invokevirtual 94, 3) := by decide +kernel
theorem d_AS_hugeLength_42 : decode prog_34_method_28_code 42 = .ok (.invokevirtual 101, 3) := by decide +kernel
theorem d_AS_hugeLength_45 : decode prog_34_method_28_code 45 = .ok (.invokespecial 212, 3) := by decide +kernel
theorem d_AS_hugeLength_48 : decode prog_34_method_28_code 48 = .ok (.athrow, 1) := by decide +kernel
theorem d_AS_hugeLength_49 : decode prog_34_method_28_code 49 = .ok (.iload_n 2, 1) := by decide +kernel
theorem d_AS_hugeLength_50 : decode prog_34_method_28_code 50 = .ok (.ldc 200, 2) := by decide +kernel
theorem d_AS_hugeLength_52 : decode prog_34_method_28_code 52 = .ok (.if_icmp .gt (6), 3) := by decide +kernel
theorem d_AS_hugeLength_55 : decode prog_34_method_28_code 55 = .ok (.ldc 200, 2) := by decide +kernel
theorem d_AS_hugeLength_57 : decode prog_34_method_28_code 57 = .ok (.ireturn, 1) := by decide +kernel
theorem d_AS_hugeLength_58 : decode prog_34_method_28_code 58 = .ok (.iload_n 2, 1) := by decide +kernel
theorem d_AS_hugeLength_59 : decode prog_34_method_28_code 59 = .ok (.ireturn, 1) := by decide +kernel
theorem d_Ar_copyOf_0 : decode prog_28_method_119_code 0 = .ok (.aload_n 0, 1) := by decide +kernel
theorem d_Ar_copyOf_1 : decode prog_28_method_119_code 1 = .ok (.iload_n 1, 1) := by decide +kernel
theorem d_Ar_copyOf_2 : decode prog_28_method_119_code 2 = .ok (.aload_n 0, 1) := by decide +kernel
theorem d_Ar_copyOf_3 : decode prog_28_method_119_code 3 = .ok (.invokevirtual 86, 3) := by decide +kernel
theorem d_Ar_copyOf_6 : decode prog_28_method_119_code 6 = .ok (.invokestatic 300, 3) := by decide +kernel
theorem d_Ar_copyOf_9 : decode prog_28_method_119_code 9 = .ok (.areturn, 1) := by decide +kernel
theorem d_Ar_copyOf2_0 : decode prog_28_method_120_code 0 = .ok (.aload_n 2, 1) := by decide +kernel
theorem d_Ar_copyOf2_1 : decode prog_28_method_120_code 1 = .ok (.ldc 110, 2) := by decide +kernel
theorem d_Ar_copyOf2_3 : decode prog_28_method_120_code 3 = .ok (.if_acmp .ne (10), 3) := by decide +kernel
theorem d_Ar_copyOf2_6 : decode prog_28_method_120_code 6 = .ok (.iload_n 1, 1) := by decide +kernel
theorem d_Ar_copyOf2_7 : decode prog_28_method_120_code 7 = .ok (.anewarray 2, 3) := by decide +kernel
theorem d_Ar_copyOf2_10 : decode prog_28_method_120_code 10 = .ok (.goto (14), 3) := by decide +kernel
theorem d_Ar_copyOf2_13 : decode prog_28_method_120_code 13 = .ok (.aload_n 2, 1) := by decide +kernel
theorem d_Ar_copyOf2_14 : decode prog_28_method_120_code 14 = .ok (.invokevirtual 90, 3) := by decide +kernel
theorem d_Ar_copyOf2_17 : decode prog_28_method_120_code 17 = .ok (.iload_n 1, 1) := by decide +kernel
theorem d_Ar_copyOf2_18 : decode prog_28_method_120_code 18 = .ok (.invokestatic 95, 3) := by decide +kernel
theorem d_Ar_copyOf2_21 : decode prog_28_method_120_code 21 = .ok (.checkcast 110, 3) := by decide +kernel
theorem d_Ar_copyOf2_24 : decode prog_28_method_120_code 24 = .ok (.astore_n 3, 1) := by decide +kernel
theorem d_Ar_copyOf2_25 : decode prog_28_method_120_code 25 = .ok (.aload_n 0, 1) := by decide +kernel
theorem d_Ar_copyOf2_26 : decode prog_28_method_120_code 26 = .ok (.iconst 0, 1) := by decide +kernel
theorem d_Ar_copyOf2_27 : decode prog_28_method_120_code 27 = .ok (.aload_n 3, 1) := by decide +kernel
theorem d_Ar_copyOf2_28 : decode prog_28_method_120_code 28 = .ok (.iconst 0, 1) := by decide +kernel
theorem d_Ar_copyOf2_29 : decode prog_28_method_120_code 29 = .ok (.aload_n 0, 1) := by decide +kernel
theorem d_Ar_copyOf2_30 : decode prog_28_method_120_code 30 = .ok (.arraylength, 1) := by decide +kernel
theorem d_Ar_copyOf2_31 : decode prog_28_method_120_code 31 = .ok (.iload_n 1, 1) := by decide +kernel
theorem d_Ar_copyOf2_32 : decode prog_28_method_120_code 32 = .ok (.invokestatic 304, 3) := by decide +kernel
theorem d_Ar_copyOf2_35 : decode prog_28_method_120_code 35 = .ok (.invokestatic 150, 3) := by decide +kernel
theorem d_Ar_copyOf2_38 : decode prog_28_method_120_code 38 = .ok (.aload_n 3, 1) := by decide +kernel
theorem d_Ar_copyOf2_39 : decode prog_28_method_120_code 39 = .ok (.areturn, 1) := by decide +kernel
theorem d_Ma_min_0 : decode prog_20_method_69_code 0 = .ok (.iload_n 0, 1) := by decide +kernel
theorem d_Ma_min_1 : decode prog_20_method_69_code 1 = .ok (.iload_n 1, 1) := by decide +kernel
theorem d_Ma_min_2 : decode prog_20_method_69_code 2 = .ok (.if_icmp .gt (7), 3) := by decide +kernel
theorem d_Ma_min_5 : decode prog_20_method_69_code 5 = .ok (.iload_n 0, 1) := by decide +kernel
theorem d_Ma_min_6 : decode prog_20_method_69_code 6 = .ok (.goto (4), 3) := by decide +kernel
theorem d_Ma_min_9 : decode prog_20_method_69_code 9 = .ok (.iload_n 1, 1) := by decide +kernel
theorem d_Ma_min_10 : decode prog_20_method_69_code 10 = .ok (.ireturn, 1) := by decide +kernel
theorem d_Rd_readComparison_0 : decode prog_9_method_7_code 0 = .ok (.aload_n 0, 1) := by decide +kernel
theorem d_Rd_readComparison_1 : decode prog_9_method_7_code 1 = .ok (.aload_n 1, 1) := by decide +kernel
theorem d_Rd_readComparison_2 : decode prog_9_method_7_code 2 = .ok (.iconst 0, 1) := by decide +kernel
theorem d_Rd_readComparison_3 : decode prog_9_method_7_code 3 = .ok (.invokevirtual 97, 3) := by decide +kernel
theorem d_Rd_readComparison_6 : decode prog_9_method_7_code 6 = .ok (.ifCond .ne (5), 3) := by decide +kernel
theorem d_Rd_readComparison_9 : decode prog_9_method_7_code 9 = .ok (.iconst 0, 1) := by decide +kernel
theorem d_Rd_readComparison_10 : decode prog_9_method_7_code 10 = .ok (.ireturn, 1) := by decide +kernel
theorem d_Rd_readComparison_11 : decode prog_9_method_7_code 11 = .ok (.aload_n 1, 1) := by decide +kernel
theorem d_Rd_readComparison_12 : decode prog_9_method_7_code 12 = .ok (.invokevirtual 55, 3) := by decide +kernel
theorem d_Rd_readComparison_15 : decode prog_9_method_7_code 15 = .ok (.istore_n 2, 1) := by decide +kernel
theorem d_Rd_readComparison_16 : decode prog_9_method_7_code 16 = .ok (.iload_n 2, 1) := by decide +kernel
theorem d_Rd_readComparison_17 : decode prog_9_method_7_code 17 = .ok (.invokestatic 101, 3) := by decide +kernel
theorem d_Rd_readComparison_20 : decode prog_9_method_7_code 20 = .ok (.ifCond .ne (5), 3) := by decide +kernel
theorem d_Rd_readComparison_23 : decode prog_9_method_7_code 23 = .ok (.iconst 0, 1) := by decide +kernel
theorem d_Rd_readComparison_24 : decode prog_9_method_7_code 24 = .ok (.ireturn, 1) := by decide +kernel
theorem d_Rd_readComparison_25 : decode prog_9_method_7_code 25 = .ok (.aload_n 1, 1) := by decide +kernel
theorem d_Rd_readComparison_26 : decode prog_9_method_7_code 26 = .ok (.dup, 1) := by decide +kernel
theorem d_Rd_readComparison_27 : decode prog_9_method_7_code 27 = .ok (.getfield 15, 3) := by decide +kernel
theorem d_Rd_readComparison_30 : decode prog_9_method_7_code 30 = .ok (.iconst 1, 1) := by decide +kernel
theorem d_Rd_readComparison_31 : decode prog_9_method_7_code 31 = .ok (.iadd, 1) := by decide +kernel
theorem d_Rd_readComparison_32 : decode prog_9_method_7_code 32 = .ok (.putfield 15, 3) := by decide +kernel
theorem d_Rd_readComparison_35 : decode prog_9_method_7_code 35 = .ok (.aload_n 0, 1) := by decide +kernel
theorem d_Rd_readComparison_36 : decode prog_9_method_7_code 36 = .ok (.aload_n 1, 1) := by decide +kernel
theorem d_Rd_readComparison_37 : decode prog_9_method_7_code 37 = .ok (.iconst 0, 1) := by decide +kernel
theorem d_Rd_readComparison_38 : decode prog_9_method_7_code 38 = .ok (.invokevirtual 97, 3) := by decide +kernel
theorem d_Rd_readComparison_41 : decode prog_9_method_7_code 41 = .ok (.ifCond .eq (16), 3) := by decide +kernel
theorem d_Rd_readComparison_44 : decode prog_9_method_7_code 44 = .ok (.aload_n 0, 1) := by decide +kernel
theorem d_Rd_readComparison_45 : decode prog_9_method_7_code 45 = .ok (.iload_n 2, 1) := by decide +kernel
theorem d_Rd_readComparison_46 : decode prog_9_method_7_code 46 = .ok (.ineg, 1) := by decide +kernel
theorem d_Rd_readComparison_47 : decode prog_9_method_7_code 47 = .ok (.invokevirtual 105, 3) := by decide +kernel
theorem d_Rd_readComparison_50 : decode prog_9_method_7_code 50 = .ok (.ifCond .eq (7), 3) := by decide +kernel
theorem d_Rd_readComparison_53 : decode prog_9_method_7_code 53 = .ok (.iconst 1, 1) := by decide +kernel
theorem d_Rd_readComparison_54 : decode prog_9_method_7_code 54 = .ok (.goto (4), 3) := by decide +kernel
theorem d_Rd_readComparison_57 : decode prog_9_method_7_code 57 = .ok (.iconst 0, 1) := by decide +kernel
theorem d_Rd_readComparison_58 : decode prog_9_method_7_code 58 = .ok (.ireturn, 1) := by decide +kernel
theorem d_Rd_readSum_0 : decode prog_9_method_8_code 0 = .ok (.aload_n 0, 1) := by decide +kernel
theorem d_Rd_readSum_1 : decode prog_9_method_8_code 1 = .ok (.aload_n 1, 1) := by decide +kernel
theorem d_Rd_readSum_2 : decode prog_9_method_8_code 2 = .ok (.iload_n 2, 1) := by decide +kernel
theorem d_Rd_readSum_3 : decode prog_9_method_8_code 3 = .ok (.invokevirtual 108, 3) := by decide +kernel
theorem d_Rd_readSum_6 : decode prog_9_method_8_code 6 = .ok (.istore_n 3, 1) := by decide +kernel
theorem d_Rd_readSum_7 : decode prog_9_method_8_code 7 = .ok (.iconst 0, 1) := by decide +kernel
theorem d_Rd_readSum_8 : decode prog_9_method_8_code 8 = .ok (.istore 4, 2) := by decide +kernel
theorem d_Rd_readSum_10 : decode prog_9_method_8_code 10 = .ok (.iload_n 3, 1) := by decide +kernel
theorem d_Rd_readSum_11 : decode prog_9_method_8_code 11 = .ok (.ifCond .eq (80), 3) := by decide +kernel
theorem d_Rd_readSum_14 : decode prog_9_method_8_code 14 = .ok (.iload 4, 2) := by decide +kernel
theorem d_Rd_readSum_16 : decode prog_9_method_8_code 16 = .ok (.bipush (40), 2) := by decide +kernel
theorem d_Rd_readSum_18 : decode prog_9_method_8_code 18 = .ok (.if_icmp .ge (73), 3) := by decide +kernel
theorem d_Rd_readSum_21 : decode prog_9_method_8_code 21 = .ok (.aload_n 1, 1) := by decide +kernel
theorem d_Rd_readSum_22 : decode prog_9_method_8_code 22 = .ok (.bipush (43), 2) := by decide +kernel
theorem d_Rd_readSum_24 : decode prog_9_method_8_code 24 = .ok (.invokevirtual 44, 3) := by decide +kernel
theorem d_Rd_readSum_27 : decode prog_9_method_8_code 27 = .ok (.ifCond .eq (8), 3) := by decide +kernel
theorem d_Rd_readSum_30 : decode prog_9_method_8_code 30 = .ok (.bipush (43), 2) := by decide +kernel
theorem d_Rd_readSum_32 : decode prog_9_method_8_code 32 = .ok (.goto (18), 3) := by decide +kernel
theorem d_Rd_readSum_35 : decode prog_9_method_8_code 35 = .ok (.aload_n 1, 1) := by decide +kernel
theorem d_Rd_readSum_36 : decode prog_9_method_8_code 36 = .ok (.bipush (45), 2) := by decide +kernel
theorem d_Rd_readSum_38 : decode prog_9_method_8_code 38 = .ok (.invokevirtual 44, 3) := by decide +kernel
theorem d_Rd_readSum_41 : decode prog_9_method_8_code 41 = .ok (.ifCond .eq (8), 3) := by decide +kernel
theorem d_Rd_readSum_44 : decode prog_9_method_8_code 44 = .ok (.bipush (45), 2) := by decide +kernel
theorem d_Rd_readSum_46 : decode prog_9_method_8_code 46 = .ok (.goto (4), 3) := by decide +kernel
theorem d_Rd_readSum_49 : decode prog_9_method_8_code 49 = .ok (.iconst 0, 1) := by decide +kernel
theorem d_Rd_readSum_50 : decode prog_9_method_8_code 50 = .ok (.istore 5, 2) := by decide +kernel
theorem d_Rd_readSum_52 : decode prog_9_method_8_code 52 = .ok (.iload 5, 2) := by decide +kernel
theorem d_Rd_readSum_54 : decode prog_9_method_8_code 54 = .ok (.ifCond .ne (6), 3) := by decide +kernel
theorem d_Rd_readSum_57 : decode prog_9_method_8_code 57 = .ok (.goto (34), 3) := by decide +kernel
theorem d_Rd_readSum_60 : decode prog_9_method_8_code 60 = .ok (.aload_n 0, 1) := by decide +kernel
theorem d_Rd_readSum_61 : decode prog_9_method_8_code 61 = .ok (.aload_n 1, 1) := by decide +kernel
theorem d_Rd_readSum_62 : decode prog_9_method_8_code 62 = .ok (.iload_n 2, 1) := by decide +kernel
theorem d_Rd_readSum_63 : decode prog_9_method_8_code 63 = .ok (.invokevirtual 108, 3) := by decide +kernel
theorem d_Rd_readSum_66 : decode prog_9_method_8_code 66 = .ok (.ifCond .eq (17), 3) := by decide +kernel
theorem d_Rd_readSum_69 : decode prog_9_method_8_code 69 = .ok (.aload_n 0, 1) := by decide +kernel
theorem d_Rd_readSum_70 : decode prog_9_method_8_code 70 = .ok (.iload 5, 2) := by decide +kernel
theorem d_Rd_readSum_72 : decode prog_9_method_8_code 72 = .ok (.ineg, 1) := by decide +kernel
theorem d_Rd_readSum_73 : decode prog_9_method_8_code 73 = .ok (.invokevirtual 105, 3) := by decide +kernel
theorem d_Rd_readSum_76 : decode prog_9_method_8_code 76 = .ok (.ifCond .eq (7), 3) := by decide +kernel
theorem d_Rd_readSum_79 : decode prog_9_method_8_code 79 = .ok (.iconst 1, 1) := by decide +kernel
theorem d_Rd_readSum_80 : decode prog_9_method_8_code 80 = .ok (.goto (4), 3) := by decide +kernel
theorem d_Rd_readSum_83 : decode prog_9_method_8_code 83 = .ok (.iconst 0, 1) := by decide +kernel
theorem d_Rd_readSum_84 : decode prog_9_method_8_code 84 = .ok (.istore_n 3, 1) := by decide +kernel
theorem d_Rd_readSum_85 : decode prog_9_method_8_code 85 = .ok (.iinc 4 (1), 3) := by decide +kernel
theorem d_Rd_readSum_88 : decode prog_9_method_8_code 88 = .ok (.goto (-78), 3) := by decide +kernel
theorem d_Rd_readSum_91 : decode prog_9_method_8_code 91 = .ok (.iload_n 3, 1) := by decide +kernel
theorem d_Rd_readSum_92 : decode prog_9_method_8_code 92 = .ok (.ireturn, 1) := by decide +kernel
theorem d_Rd_readProduct_0 : decode prog_9_method_9_code 0 = .ok (.aload_n 0, 1) := by decide +kernel
theorem d_Rd_readProduct_1 : decode prog_9_method_9_code 1 = .ok (.aload_n 1, 1) := by decide +kernel
theorem d_Rd_readProduct_2 : decode prog_9_method_9_code 2 = .ok (.iload_n 2, 1) := by decide +kernel
theorem d_Rd_readProduct_3 : decode prog_9_method_9_code 3 = .ok (.invokevirtual 111, 3) := by decide +kernel
theorem d_Rd_readProduct_6 : decode prog_9_method_9_code 6 = .ok (.istore_n 3, 1) := by decide +kernel
theorem d_Rd_readProduct_7 : decode prog_9_method_9_code 7 = .ok (.iconst 0, 1) := by decide +kernel
theorem d_Rd_readProduct_8 : decode prog_9_method_9_code 8 = .ok (.istore 4, 2) := by decide +kernel
theorem d_Rd_readProduct_10 : decode prog_9_method_9_code 10 = .ok (.iload_n 3, 1) := by decide +kernel
theorem d_Rd_readProduct_11 : decode prog_9_method_9_code 11 = .ok (.ifCond .eq (87), 3) := by decide +kernel
theorem d_Rd_readProduct_14 : decode prog_9_method_9_code 14 = .ok (.iload 4, 2) := by decide +kernel
theorem d_Rd_readProduct_16 : decode prog_9_method_9_code 16 = .ok (.bipush (40), 2) := by decide +kernel
theorem d_Rd_readProduct_18 : decode prog_9_method_9_code 18 = .ok (.if_icmp .ge (80), 3) := by decide +kernel
theorem d_Rd_readProduct_21 : decode prog_9_method_9_code 21 = .ok (.aload_n 1, 1) := by decide +kernel
theorem d_Rd_readProduct_22 : decode prog_9_method_9_code 22 = .ok (.invokevirtual 114, 3) := by decide +kernel
theorem d_Rd_readProduct_25 : decode prog_9_method_9_code 25 = .ok (.ifCond .ne (73), 3) := by decide +kernel
theorem d_Rd_readProduct_28 : decode prog_9_method_9_code 28 = .ok (.aload_n 1, 1) := by decide +kernel
theorem d_Rd_readProduct_29 : decode prog_9_method_9_code 29 = .ok (.bipush (42), 2) := by decide +kernel
theorem d_Rd_readProduct_31 : decode prog_9_method_9_code 31 = .ok (.invokevirtual 44, 3) := by decide +kernel
theorem d_Rd_readProduct_34 : decode prog_9_method_9_code 34 = .ok (.ifCond .eq (8), 3) := by decide +kernel
theorem d_Rd_readProduct_37 : decode prog_9_method_9_code 37 = .ok (.bipush (42), 2) := by decide +kernel
theorem d_Rd_readProduct_39 : decode prog_9_method_9_code 39 = .ok (.goto (18), 3) := by decide +kernel
theorem d_Rd_readProduct_42 : decode prog_9_method_9_code 42 = .ok (.aload_n 1, 1) := by decide +kernel
theorem d_Rd_readProduct_43 : decode prog_9_method_9_code 43 = .ok (.bipush (47), 2) := by decide +kernel
theorem d_Rd_readProduct_45 : decode prog_9_method_9_code 45 = .ok (.invokevirtual 44, 3) := by decide +kernel
theorem d_Rd_readProduct_48 : decode prog_9_method_9_code 48 = .ok (.ifCond .eq (8), 3) := by decide +kernel
theorem d_Rd_readProduct_51 : decode prog_9_method_9_code 51 = .ok (.bipush (47), 2) := by decide +kernel
theorem d_Rd_readProduct_53 : decode prog_9_method_9_code 53 = .ok (.goto (4), 3) := by decide +kernel
theorem d_Rd_readProduct_56 : decode prog_9_method_9_code 56 = .ok (.iconst 0, 1) := by decide +kernel
theorem d_Rd_readProduct_57 : decode prog_9_method_9_code 57 = .ok (.istore 5, 2) := by decide +kernel
theorem d_Rd_readProduct_59 : decode prog_9_method_9_code 59 = .ok (.iload 5, 2) := by decide +kernel
theorem d_Rd_readProduct_61 : decode prog_9_method_9_code 61 = .ok (.ifCond .ne (6), 3) := by decide +kernel
theorem d_Rd_readProduct_64 : decode prog_9_method_9_code 64 = .ok (.goto (34), 3) := by decide +kernel
theorem d_Rd_readProduct_67 : decode prog_9_method_9_code 67 = .ok (.aload_n 0, 1) := by decide +kernel
theorem d_Rd_readProduct_68 : decode prog_9_method_9_code 68 = .ok (.aload_n 1, 1) := by decide +kernel
theorem d_Rd_readProduct_69 : decode prog_9_method_9_code 69 = .ok (.iload_n 2, 1) := by decide +kernel
theorem d_Rd_readProduct_70 : decode prog_9_method_9_code 70 = .ok (.invokevirtual 111, 3) := by decide +kernel
theorem d_Rd_readProduct_73 : decode prog_9_method_9_code 73 = .ok (.ifCond .eq (17), 3) := by decide +kernel
theorem d_Rd_readProduct_76 : decode prog_9_method_9_code 76 = .ok (.aload_n 0, 1) := by decide +kernel
theorem d_Rd_readProduct_77 : decode prog_9_method_9_code 77 = .ok (.iload 5, 2) := by decide +kernel
theorem d_Rd_readProduct_79 : decode prog_9_method_9_code 79 = .ok (.ineg, 1) := by decide +kernel
theorem d_Rd_readProduct_80 : decode prog_9_method_9_code 80 = .ok (.invokevirtual 105, 3) := by decide +kernel
theorem d_Rd_readProduct_83 : decode prog_9_method_9_code 83 = .ok (.ifCond .eq (7), 3) := by decide +kernel
theorem d_Rd_readProduct_86 : decode prog_9_method_9_code 86 = .ok (.iconst 1, 1) := by decide +kernel
theorem d_Rd_readProduct_87 : decode prog_9_method_9_code 87 = .ok (.goto (4), 3) := by decide +kernel
theorem d_Rd_readProduct_90 : decode prog_9_method_9_code 90 = .ok (.iconst 0, 1) := by decide +kernel
theorem d_Rd_readProduct_91 : decode prog_9_method_9_code 91 = .ok (.istore_n 3, 1) := by decide +kernel
theorem d_Rd_readProduct_92 : decode prog_9_method_9_code 92 = .ok (.iinc 4 (1), 3) := by decide +kernel
theorem d_Rd_readProduct_95 : decode prog_9_method_9_code 95 = .ok (.goto (-85), 3) := by decide +kernel
theorem d_Rd_readProduct_98 : decode prog_9_method_9_code 98 = .ok (.iload_n 3, 1) := by decide +kernel
theorem d_Rd_readProduct_99 : decode prog_9_method_9_code 99 = .ok (.ireturn, 1) := by decide +kernel
theorem d_Rd_readFactor_0 : decode prog_9_method_10_code 0 = .ok (.aload_n 1, 1) := by decide +kernel
theorem d_Rd_readFactor_1 : decode prog_9_method_10_code 1 = .ok (.invokevirtual 55, 3) := by decide +kernel
theorem d_Rd_readFactor_4 : decode prog_9_method_10_code 4 = .ok (.istore_n 3, 1) := by decide +kernel
theorem d_Rd_readFactor_5 : decode prog_9_method_10_code 5 = .ok (.iload_n 3, 1) := by decide +kernel
theorem d_Rd_readFactor_6 : decode prog_9_method_10_code 6 = .ok (.bipush (40), 2) := by decide +kernel
theorem d_Rd_readFactor_8 : decode prog_9_method_10_code 8 = .ok (.if_icmp .ne (52), 3) := by decide +kernel
theorem d_Rd_readFactor_11 : decode prog_9_method_10_code 11 = .ok (.aload_n 1, 1) := by decide +kernel
theorem d_Rd_readFactor_12 : decode prog_9_method_10_code 12 = .ok (.dup, 1) := by decide +kernel
theorem d_Rd_readFactor_13 : decode prog_9_method_10_code 13 = .ok (.getfield 15, 3) := by decide +kernel
theorem d_Rd_readFactor_16 : decode prog_9_method_10_code 16 = .ok (.iconst 1, 1) := by decide +kernel
theorem d_Rd_readFactor_17 : decode prog_9_method_10_code 17 = .ok (.iadd, 1) := by decide +kernel
theorem d_Rd_readFactor_18 : decode prog_9_method_10_code 18 = .ok (.putfield 15, 3) := by decide +kernel
theorem d_Rd_readFactor_21 : decode prog_9_method_10_code 21 = .ok (.iload_n 2, 1) := by decide +kernel
theorem d_Rd_readFactor_22 : decode prog_9_method_10_code 22 = .ok (.iconst 4, 1) := by decide +kernel
theorem d_Rd_readFactor_23 : decode prog_9_method_10_code 23 = .ok (.if_icmp .ge (23), 3) := by decide +kernel
theorem d_Rd_readFactor_26 : decode prog_9_method_10_code 26 = .ok (.aload_n 0, 1) := by decide +kernel
theorem d_Rd_readFactor_27 : decode prog_9_method_10_code 27 = .ok (.aload_n 1, 1) := by decide +kernel
theorem d_Rd_readFactor_28 : decode prog_9_method_10_code 28 = .ok (.iload_n 2, 1) := by decide +kernel
theorem d_Rd_readFactor_29 : decode prog_9_method_10_code 29 = .ok (.iconst 1, 1) := by decide +kernel
theorem d_Rd_readFactor_30 : decode prog_9_method_10_code 30 = .ok (.iadd, 1) := by decide +kernel
theorem d_Rd_readFactor_31 : decode prog_9_method_10_code 31 = .ok (.invokevirtual 97, 3) := by decide +kernel
theorem d_Rd_readFactor_34 : decode prog_9_method_10_code 34 = .ok (.ifCond .eq (12), 3) := by decide +kernel
theorem d_Rd_readFactor_37 : decode prog_9_method_10_code 37 = .ok (.aload_n 1, 1) := by decide +kernel
theorem d_Rd_readFactor_38 : decode prog_9_method_10_code 38 = .ok (.invokevirtual 55, 3) := by decide +kernel
theorem d_Rd_readFactor_41 : decode prog_9_method_10_code 41 = .ok (.bipush (41), 2) := by decide +kernel
theorem d_Rd_readFactor_43 : decode prog_9_method_10_code 43 = .ok (.if_icmp .eq (5), 3) := by decide +kernel
theorem d_Rd_readFactor_46 : decode prog_9_method_10_code 46 = .ok (.iconst 0, 1) := by decide +kernel
theorem d_Rd_readFactor_47 : decode prog_9_method_10_code 47 = .ok (.ireturn, 1) := by decide +kernel
theorem d_Rd_readFactor_48 : decode prog_9_method_10_code 48 = .ok (.aload_n 1, 1) := by decide +kernel
theorem d_Rd_readFactor_49 : decode prog_9_method_10_code 49 = .ok (.dup, 1) := by decide +kernel
theorem d_Rd_readFactor_50 : decode prog_9_method_10_code 50 = .ok (.getfield 15, 3) := by decide +kernel
theorem d_Rd_readFactor_53 : decode prog_9_method_10_code 53 = .ok (.iconst 1, 1) := by decide +kernel
theorem d_Rd_readFactor_54 : decode prog_9_method_10_code 54 = .ok (.iadd, 1) := by decide +kernel
theorem d_Rd_readFactor_55 : decode prog_9_method_10_code 55 = .ok (.putfield 15, 3) := by decide +kernel
theorem d_Rd_readFactor_58 : decode prog_9_method_10_code 58 = .ok (.iconst 1, 1) := by decide +kernel
theorem d_Rd_readFactor_59 : decode prog_9_method_10_code 59 = .ok (.ireturn, 1) := by decide +kernel
theorem d_Rd_readFactor_60 : decode prog_9_method_10_code 60 = .ok (.iload_n 3, 1) := by decide +kernel
theorem d_Rd_readFactor_61 : decode prog_9_method_10_code 61 = .ok (.invokestatic 80, 3) := by decide +kernel
theorem d_Rd_readFactor_64 : decode prog_9_method_10_code 64 = .ok (.ifCond .eq (40), 3) := by decide +kernel
theorem d_Rd_readFactor_67 : decode prog_9_method_10_code 67 = .ok (.aload_n 1, 1) := by decide +kernel
theorem d_Rd_readFactor_68 : decode prog_9_method_10_code 68 = .ok (.dup, 1) := by decide +kernel
theorem d_Rd_readFactor_69 : decode prog_9_method_10_code 69 = .ok (.getfield 15, 3) := by decide +kernel
theorem d_Rd_readFactor_72 : decode prog_9_method_10_code 72 = .ok (.iconst 1, 1) := by decide +kernel
theorem d_Rd_readFactor_73 : decode prog_9_method_10_code 73 = .ok (.iadd, 1) := by decide +kernel
theorem d_Rd_readFactor_74 : decode prog_9_method_10_code 74 = .ok (.putfield 15, 3) := by decide +kernel
theorem d_Rd_readFactor_77 : decode prog_9_method_10_code 77 = .ok (.aload_n 0, 1) := by decide +kernel
theorem d_Rd_readFactor_78 : decode prog_9_method_10_code 78 = .ok (.dup, 1) := by decide +kernel
theorem d_Rd_readFactor_79 : decode prog_9_method_10_code 79 = .ok (.getfield 24, 3) := by decide +kernel
theorem d_Rd_readFactor_82 : decode prog_9_method_10_code 82 = .ok (.iconst 1, 1) := by decide +kernel
theorem d_Rd_readFactor_83 : decode prog_9_method_10_code 83 = .ok (.iload_n 3, 1) := by decide +kernel
theorem d_Rd_readFactor_84 : decode prog_9_method_10_code 84 = .ok (.bipush (65), 2) := by decide +kernel
theorem d_Rd_readFactor_86 : decode prog_9_method_10_code 86 = .ok (.isub, 1) := by decide +kernel
theorem d_Rd_readFactor_87 : decode prog_9_method_10_code 87 = .ok (.ishl, 1) := by decide +kernel
theorem d_Rd_readFactor_88 : decode prog_9_method_10_code 88 = .ok (.ior, 1) := by decide +kernel
theorem d_Rd_readFactor_89 : decode prog_9_method_10_code 89 = .ok (.putfield 24, 3) := by decide +kernel
theorem d_Rd_readFactor_92 : decode prog_9_method_10_code 92 = .ok (.aload_n 0, 1) := by decide +kernel
theorem d_Rd_readFactor_93 : decode prog_9_method_10_code 93 = .ok (.ldc 83, 2) := by decide +kernel
theorem d_Rd_readFactor_95 : decode prog_9_method_10_code 95 = .ok (.iload_n 3, 1) := by decide +kernel
theorem d_Rd_readFactor_96 : decode prog_9_method_10_code 96 = .ok (.bipush (65), 2) := by decide +kernel
theorem d_Rd_readFactor_98 : decode prog_9_method_10_code 98 = .ok (.isub, 1) := by decide +kernel
theorem d_Rd_readFactor_99 : decode prog_9_method_10_code 99 = .ok (.iadd, 1) := by decide +kernel
theorem d_Rd_readFactor_100 : decode prog_9_method_10_code 100 = .ok (.invokevirtual 105, 3) := by decide +kernel
theorem d_Rd_readFactor_103 : decode prog_9_method_10_code 103 = .ok (.ireturn, 1) := by decide +kernel
theorem d_Rd_readFactor_104 : decode prog_9_method_10_code 104 = .ok (.aload_n 1, 1) := by decide +kernel
theorem d_Rd_readFactor_105 : decode prog_9_method_10_code 105 = .ok (.invokevirtual 84, 3) := by decide +kernel
theorem d_Rd_readFactor_108 : decode prog_9_method_10_code 108 = .ok (.istore 4, 2) := by decide +kernel
theorem d_Rd_readFactor_110 : decode prog_9_method_10_code 110 = .ok (.iload 4, 2) := by decide +kernel
theorem d_Rd_readFactor_112 : decode prog_9_method_10_code 112 = .ok (.ifCond .lt (16), 3) := by decide +kernel
theorem d_Rd_readFactor_115 : decode prog_9_method_10_code 115 = .ok (.aload_n 0, 1) := by decide +kernel
theorem d_Rd_readFactor_116 : decode prog_9_method_10_code 116 = .ok (.iload 4, 2) := by decide +kernel
theorem d_Rd_readFactor_118 : decode prog_9_method_10_code 118 = .ok (.invokevirtual 105, 3) := by decide +kernel
theorem d_Rd_readFactor_121 : decode prog_9_method_10_code 121 = .ok (.ifCond .eq (7), 3) := by decide +kernel
theorem d_Rd_readFactor_124 : decode prog_9_method_10_code 124 = .ok (.iconst 1, 1) := by decide +kernel
theorem d_Rd_readFactor_125 : decode prog_9_method_10_code 125 = .ok (.goto (4), 3) := by decide +kernel
theorem d_Rd_readFactor_128 : decode prog_9_method_10_code 128 = .ok (.iconst 0, 1) := by decide +kernel
theorem d_Rd_readFactor_129 : decode prog_9_method_10_code 129 = .ok (.ireturn, 1) := by decide +kernel
theorem d_Rd_addStep_0 : decode prog_9_method_11_code 0 = .ok (.aload_n 0, 1) := by decide +kernel
theorem d_Rd_addStep_1 : decode prog_9_method_11_code 1 = .ok (.getfield 21, 3) := by decide +kernel
theorem d_Rd_addStep_4 : decode prog_9_method_11_code 4 = .ok (.bipush (40), 2) := by decide +kernel
theorem d_Rd_addStep_6 : decode prog_9_method_11_code 6 = .ok (.if_icmp .lt (5), 3) := by decide +kernel
theorem d_Rd_addStep_9 : decode prog_9_method_11_code 9 = .ok (.iconst 0, 1) := by decide +kernel
theorem d_Rd_addStep_10 : decode prog_9_method_11_code 10 = .ok (.ireturn, 1) := by decide +kernel
theorem d_Rd_addStep_11 : decode prog_9_method_11_code 11 = .ok (.aload_n 0, 1) := by decide +kernel
theorem d_Rd_addStep_12 : decode prog_9_method_11_code 12 = .ok (.getfield 9, 3) := by decide +kernel
theorem d_Rd_addStep_15 : decode prog_9_method_11_code 15 = .ok (.aload_n 0, 1) := by decide +kernel
theorem d_Rd_addStep_16 : decode prog_9_method_11_code 16 = .ok (.getfield 21, 3) := by decide +kernel
theorem d_Rd_addStep_19 : decode prog_9_method_11_code 19 = .ok (.iload_n 1, 1) := by decide +kernel
theorem d_Rd_addStep_20 : decode prog_9_method_11_code 20 = .ok (.iastore, 1) := by decide +kernel
theorem d_Rd_addStep_21 : decode prog_9_method_11_code 21 = .ok (.aload_n 0, 1) := by decide +kernel
theorem d_Rd_addStep_22 : decode prog_9_method_11_code 22 = .ok (.dup, 1) := by decide +kernel
theorem d_Rd_addStep_23 : decode prog_9_method_11_code 23 = .ok (.getfield 21, 3) := by decide +kernel
theorem d_Rd_addStep_26 : decode prog_9_method_11_code 26 = .ok (.iconst 1, 1) := by decide +kernel
theorem d_Rd_addStep_27 : decode prog_9_method_11_code 27 = .ok (.iadd, 1) := by decide +kernel
theorem d_Rd_addStep_28 : decode prog_9_method_11_code 28 = .ok (.putfield 21, 3) := by decide +kernel
theorem d_Rd_addStep_31 : decode prog_9_method_11_code 31 = .ok (.iconst 1, 1) := by decide +kernel
theorem d_Rd_addStep_32 : decode prog_9_method_11_code 32 = .ok (.ireturn, 1) := by decide +kernel
theorem d_Ln_isAtLastStar_0 : decode prog_7_method_6_code 0 = .ok (.aload_n 0, 1) := by decide +kernel
theorem d_Ln_isAtLastStar_1 : decode prog_7_method_6_code 1 = .ok (.invokevirtual 22, 3) := by decide +kernel
theorem d_Ln_isAtLastStar_4 : decode prog_7_method_6_code 4 = .ok (.bipush (42), 2) := by decide +kernel
theorem d_Ln_isAtLastStar_6 : decode prog_7_method_6_code 6 = .ok (.if_icmp .eq (5), 3) := by decide +kernel
theorem d_Ln_isAtLastStar_9 : decode prog_7_method_6_code 9 = .ok (.iconst 0, 1) := by decide +kernel
theorem d_Ln_isAtLastStar_10 : decode prog_7_method_6_code 10 = .ok (.ireturn, 1) := by decide +kernel
theorem d_Ln_isAtLastStar_11 : decode prog_7_method_6_code 11 = .ok (.aload_n 0, 1) := by decide +kernel
theorem d_Ln_isAtLastStar_12 : decode prog_7_method_6_code 12 = .ok (.getfield 19, 3) := by decide +kernel
theorem d_Ln_isAtLastStar_15 : decode prog_7_method_6_code 15 = .ok (.iconst 1, 1) := by decide +kernel
theorem d_Ln_isAtLastStar_16 : decode prog_7_method_6_code 16 = .ok (.iadd, 1) := by decide +kernel
theorem d_Ln_isAtLastStar_17 : decode prog_7_method_6_code 17 = .ok (.istore_n 1, 1) := by decide +kernel
theorem d_Ln_isAtLastStar_18 : decode prog_7_method_6_code 18 = .ok (.iload_n 1, 1) := by decide +kernel
theorem d_Ln_isAtLastStar_19 : decode prog_7_method_6_code 19 = .ok (.aload_n 0, 1) := by decide +kernel
theorem d_Ln_isAtLastStar_20 : decode prog_7_method_6_code 20 = .ok (.getfield 15, 3) := by decide +kernel
theorem d_Ln_isAtLastStar_23 : decode prog_7_method_6_code 23 = .ok (.if_icmp .ge (22), 3) := by decide +kernel
theorem d_Ln_isAtLastStar_26 : decode prog_7_method_6_code 26 = .ok (.aload_n 0, 1) := by decide +kernel
theorem d_Ln_isAtLastStar_27 : decode prog_7_method_6_code 27 = .ok (.getfield 9, 3) := by decide +kernel
theorem d_Ln_isAtLastStar_30 : decode prog_7_method_6_code 30 = .ok (.iload_n 1, 1) := by decide +kernel
theorem d_Ln_isAtLastStar_31 : decode prog_7_method_6_code 31 = .ok (.caload, 1) := by decide +kernel
theorem d_Ln_isAtLastStar_32 : decode prog_7_method_6_code 32 = .ok (.bipush (32), 2) := by decide +kernel
theorem d_Ln_isAtLastStar_34 : decode prog_7_method_6_code 34 = .ok (.if_icmp .eq (5), 3) := by decide +kernel
theorem d_Ln_isAtLastStar_37 : decode prog_7_method_6_code 37 = .ok (.iconst 0, 1) := by decide +kernel
theorem d_Ln_isAtLastStar_38 : decode prog_7_method_6_code 38 = .ok (.ireturn, 1) := by decide +kernel
theorem d_Ln_isAtLastStar_39 : decode prog_7_method_6_code 39 = .ok (.iinc 1 (1), 3) := by decide +kernel
theorem d_Ln_isAtLastStar_42 : decode prog_7_method_6_code 42 = .ok (.goto (-24), 3) := by decide +kernel
theorem d_Ln_isAtLastStar_45 : decode prog_7_method_6_code 45 = .ok (.iconst 1, 1) := by decide +kernel
theorem d_Ln_isAtLastStar_46 : decode prog_7_method_6_code 46 = .ok (.ireturn, 1) := by decide +kernel
theorem d_GC_isComparison_0 : decode prog_1_method_20_code 0 = .ok (.iload_n 0, 1) := by decide +kernel
theorem d_GC_isComparison_1 : decode prog_1_method_20_code 1 = .ok (.bipush (60), 2) := by decide +kernel
theorem d_GC_isComparison_3 : decode prog_1_method_20_code 3 = .ok (.if_icmp .eq (21), 3) := by decide +kernel
theorem d_GC_isComparison_6 : decode prog_1_method_20_code 6 = .ok (.iload_n 0, 1) := by decide +kernel
theorem d_GC_isComparison_7 : decode prog_1_method_20_code 7 = .ok (.bipush (62), 2) := by decide +kernel
theorem d_GC_isComparison_9 : decode prog_1_method_20_code 9 = .ok (.if_icmp .eq (15), 3) := by decide +kernel
theorem d_GC_isComparison_12 : decode prog_1_method_20_code 12 = .ok (.iload_n 0, 1) := by decide +kernel
theorem d_GC_isComparison_13 : decode prog_1_method_20_code 13 = .ok (.bipush (61), 2) := by decide +kernel
theorem d_GC_isComparison_15 : decode prog_1_method_20_code 15 = .ok (.if_icmp .eq (9), 3) := by decide +kernel
theorem d_GC_isComparison_18 : decode prog_1_method_20_code 18 = .ok (.iload_n 0, 1) := by decide +kernel
theorem d_GC_isComparison_19 : decode prog_1_method_20_code 19 = .ok (.bipush (35), 2) := by decide +kernel
theorem d_GC_isComparison_21 : decode prog_1_method_20_code 21 = .ok (.if_icmp .ne (7), 3) := by decide +kernel
theorem d_GC_isComparison_24 : decode prog_1_method_20_code 24 = .ok (.iconst 1, 1) := by decide +kernel
theorem d_GC_isComparison_25 : decode prog_1_method_20_code 25 = .ok (.goto (4), 3) := by decide +kernel
theorem d_GC_isComparison_28 : decode prog_1_method_20_code 28 = .ok (.iconst 0, 1) := by decide +kernel
theorem d_GC_isComparison_29 : decode prog_1_method_20_code 29 = .ok (.ireturn, 1) := by decide +kernel
theorem d_Ar_copyOf3_0 : decode prog_28_method_123_code 0 = .ok (.iload_n 1, 1) := by decide +kernel
theorem d_Ar_copyOf3_1 : decode prog_28_method_123_code 1 = .ok (.aload_n 0, 1) := by decide +kernel
theorem d_Ar_copyOf3_2 : decode prog_28_method_123_code 2 = .ok (.arraylength, 1) := by decide +kernel
theorem d_Ar_copyOf3_3 : decode prog_28_method_123_code 3 = .ok (.if_icmp .ne (11), 3) := by decide +kernel
theorem d_Ar_copyOf3_6 : decode prog_28_method_123_code 6 = .ok (.aload_n 0, 1) := by decide +kernel
theorem d_Ar_copyOf3_7 : decode prog_28_method_123_code 7 = .ok (.invokevirtual 316, 3) := by decide +kernel
theorem d_Ar_copyOf3_10 : decode prog_28_method_123_code 10 = .ok (.checkcast 317, 3) := by decide +kernel
theorem d_Ar_copyOf3_13 : decode prog_28_method_123_code 13 = .ok (.areturn, 1) := by decide +kernel
theorem d_Ar_copyOf3_14 : decode prog_28_method_123_code 14 = .ok (.iload_n 1, 1) := by decide +kernel
theorem d_Ar_copyOf3_15 : decode prog_28_method_123_code 15 = .ok (.newarray .int, 2) := by decide +kernel
theorem d_Ar_copyOf3_17 : decode prog_28_method_123_code 17 = .ok (.astore_n 2, 1) := by decide +kernel
theorem d_Ar_copyOf3_18 : decode prog_28_method_123_code 18 = .ok (.aload_n 0, 1) := by decide +kernel
theorem d_Ar_copyOf3_19 : decode prog_28_method_123_code 19 = .ok (.iconst 0, 1) := by decide +kernel
theorem d_Ar_copyOf3_20 : decode prog_28_method_123_code 20 = .ok (.aload_n 2, 1) := by decide +kernel
theorem d_Ar_copyOf3_21 : decode prog_28_method_123_code 21 = .ok (.iconst 0, 1) := by decide +kernel
theorem d_Ar_copyOf3_22 : decode prog_28_method_123_code 22 = .ok (.aload_n 0, 1) := by decide +kernel
theorem d_Ar_copyOf3_23 : decode prog_28_method_123_code 23 = .ok (.arraylength, 1) := by decide +kernel
theorem d_Ar_copyOf3_24 : decode prog_28_method_123_code 24 = .ok (.iload_n 1, 1) := by decide +kernel
theorem d_Ar_copyOf3_25 : decode prog_28_method_123_code 25 = .ok (.invokestatic 304, 3) := by decide +kernel
theorem d_Ar_copyOf3_28 : decode prog_28_method_123_code 28 = .ok (.invokestatic 150, 3) := by decide +kernel
theorem d_Ar_copyOf3_31 : decode prog_28_method_123_code 31 = .ok (.aload_n 2, 1) := by decide +kernel
theorem d_Ar_copyOf3_32 : decode prog_28_method_123_code 32 = .ok (.areturn, 1) := by decide +kernel
theorem d_Cl_init_0 : decode prog_4_method_1_code 0 = .ok (.aload_n 0, 1) := by decide +kernel
theorem d_Cl_init_1 : decode prog_4_method_1_code 1 = .ok (.invokespecial 1, 3) := by decide +kernel
theorem d_Cl_init_4 : decode prog_4_method_1_code 4 = .ok (.aload_n 0, 1) := by decide +kernel
theorem d_Cl_init_5 : decode prog_4_method_1_code 5 = .ok (.iload_n 1, 1) := by decide +kernel
theorem d_Cl_init_6 : decode prog_4_method_1_code 6 = .ok (.putfield 7, 3) := by decide +kernel
theorem d_Cl_init_9 : decode prog_4_method_1_code 9 = .ok (.aload_n 0, 1) := by decide +kernel
theorem d_Cl_init_10 : decode prog_4_method_1_code 10 = .ok (.iload_n 2, 1) := by decide +kernel
theorem d_Cl_init_11 : decode prog_4_method_1_code 11 = .ok (.putfield 13, 3) := by decide +kernel
theorem d_Cl_init_14 : decode prog_4_method_1_code 14 = .ok (.aload_n 0, 1) := by decide +kernel
theorem d_Cl_init_15 : decode prog_4_method_1_code 15 = .ok (.aload_n 3, 1) := by decide +kernel
theorem d_Cl_init_16 : decode prog_4_method_1_code 16 = .ok (.putfield 17, 3) := by decide +kernel
theorem d_Cl_init_19 : decode prog_4_method_1_code 19 = .ok (.aload_n 0, 1) := by decide +kernel
theorem d_Cl_init_20 : decode prog_4_method_1_code 20 = .ok (.aload 4, 2) := by decide +kernel
theorem d_Cl_init_22 : decode prog_4_method_1_code 22 = .ok (.putfield 21, 3) := by decide +kernel
theorem d_Cl_init_25 : decode prog_4_method_1_code 25 = .ok (.aload_n 0, 1) := by decide +kernel
theorem d_Cl_init_26 : decode prog_4_method_1_code 26 = .ok (.aload 5, 2) := by decide +kernel
theorem d_Cl_init_28 : decode prog_4_method_1_code 28 = .ok (.putfield 25, 3) := by decide +kernel
theorem d_Cl_init_31 : decode prog_4_method_1_code 31 = .ok (.return_, 1) := by decide +kernel
theorem d_GC_moveLine_0 : decode prog_1_method_21_code 0 = .ok (.aload_n 2, 1) := by decide +kernel
theorem d_GC_moveLine_1 : decode prog_1_method_21_code 1 = .ok (.getfield 82, 3) := by decide +kernel
theorem d_GC_moveLine_4 : decode prog_1_method_21_code 4 = .ok (.aload_n 1, 1) := by decide +kernel
theorem d_GC_moveLine_5 : decode prog_1_method_21_code 5 = .ok (.invokeinterface 224 2, 5) := by decide +kernel
theorem d_GC_moveLine_10 : decode prog_1_method_21_code 10 = .ok (.pop, 1) := by decide +kernel
theorem d_GC_moveLine_11 : decode prog_1_method_21_code 11 = .ok (.aload_n 0, 1) := by decide +kernel
theorem d_GC_moveLine_12 : decode prog_1_method_21_code 12 = .ok (.getfield 10, 3) := by decide +kernel
theorem d_GC_moveLine_15 : decode prog_1_method_21_code 15 = .ok (.iconst 0, 1) := by decide +kernel
theorem d_GC_moveLine_16 : decode prog_1_method_21_code 16 = .ok (.putfield 64, 3) := by decide +kernel
theorem d_GC_moveLine_19 : decode prog_1_method_21_code 19 = .ok (.aload_n 1, 1) := by decide +kernel
theorem d_GC_moveLine_20 : decode prog_1_method_21_code 20 = .ok (.getfield 74, 3) := by decide +kernel
theorem d_GC_moveLine_23 : decode prog_1_method_21_code 23 = .ok (.ireturn, 1) := by decide +kernel
theorem d_Lw_desk_0 : decode method_4_code 0 = .ok (.aload_n 1, 1) := by decide +kernel
theorem d_Lw_desk_1 : decode method_4_code 1 = .ok (.iconst 0, 1) := by decide +kernel
theorem d_Lw_desk_2 : decode method_4_code 2 = .ok (.aload_n 0, 1) := by decide +kernel
theorem d_Lw_desk_3 : decode method_4_code 3 = .ok (.invokevirtual 19, 3) := by decide +kernel
theorem d_Lw_desk_6 : decode method_4_code 6 = .ok (.i2l, 1) := by decide +kernel
theorem d_Lw_desk_7 : decode method_4_code 7 = .ok (.lastore, 1) := by decide +kernel
theorem d_Lw_desk_8 : decode method_4_code 8 = .ok (.goto (9), 3) := by decide +kernel
theorem d_Lw_desk_11 : decode method_4_code 11 = .ok (.astore_n 2, 1) := by decide +kernel
theorem d_Lw_desk_12 : decode method_4_code 12 = .ok (.iconst 1, 1) := by decide +kernel
theorem d_Lw_desk_13 : decode method_4_code 13 = .ok (.ireturn, 1) := by decide +kernel
theorem d_Lw_desk_14 : decode method_4_code 14 = .ok (.astore_n 2, 1) := by decide +kernel
theorem d_Lw_desk_15 : decode method_4_code 15 = .ok (.iconst 2, 1) := by decide +kernel
theorem d_Lw_desk_16 : decode method_4_code 16 = .ok (.ireturn, 1) := by decide +kernel
theorem d_Lw_desk_17 : decode method_4_code 17 = .ok (.iconst 0, 1) := by decide +kernel
theorem d_Lw_desk_18 : decode method_4_code 18 = .ok (.ireturn, 1) := by decide +kernel
theorem d_GC_desk_0 : decode prog_1_method_5_code 0 = .ok (.aload_n 0, 1) := by decide +kernel
theorem d_GC_desk_1 : decode prog_1_method_5_code 1 = .ok (.getfield 19, 3) := by decide +kernel
theorem d_GC_desk_4 : decode prog_1_method_5_code 4 = .ok (.aload_n 0, 1) := by decide +kernel
theorem d_GC_desk_5 : decode prog_1_method_5_code 5 = .ok (.getfield 10, 3) := by decide +kernel
theorem d_GC_desk_8 : decode prog_1_method_5_code 8 = .ok (.invokevirtual 67, 3) := by decide +kernel
theorem d_GC_desk_11 : decode prog_1_method_5_code 11 = .ok (.astore_n 1, 1) := by decide +kernel
theorem d_GC_desk_12 : decode prog_1_method_5_code 12 = .ok (.aload_n 1, 1) := by decide +kernel
theorem d_GC_desk_13 : decode prog_1_method_5_code 13 = .ok (.ifnonnull (11), 3) := by decide +kernel
theorem d_GC_desk_16 : decode prog_1_method_5_code 16 = .ok (.new 71, 3) := by decide +kernel
theorem d_GC_desk_19 : decode prog_1_method_5_code 19 = .ok (.dup, 1) := by decide +kernel
theorem d_GC_desk_20 : decode prog_1_method_5_code 20 = .ok (.invokespecial 73, 3) := by decide +kernel
theorem d_GC_desk_23 : decode prog_1_method_5_code 23 = .ok (.athrow, 1) := by decide +kernel
theorem d_GC_desk_24 : decode prog_1_method_5_code 24 = .ok (.aload_n 0, 1) := by decide +kernel
theorem d_GC_desk_25 : decode prog_1_method_5_code 25 = .ok (.getfield 33, 3) := by decide +kernel
theorem d_GC_desk_28 : decode prog_1_method_5_code 28 = .ok (.getfield 82, 3) := by decide +kernel
theorem d_GC_desk_31 : decode prog_1_method_5_code 31 = .ok (.invokeinterface 85 1, 5) := by decide +kernel
theorem d_GC_desk_36 : decode prog_1_method_5_code 36 = .ok (.bipush (10), 2) := by decide +kernel
theorem d_GC_desk_38 : decode prog_1_method_5_code 38 = .ok (.if_icmp .lt (11), 3) := by decide +kernel
theorem d_GC_desk_41 : decode prog_1_method_5_code 41 = .ok (.new 91, 3) := by decide +kernel
theorem d_GC_desk_44 : decode prog_1_method_5_code 44 = .ok (.dup, 1) := by decide +kernel
theorem d_GC_desk_45 : decode prog_1_method_5_code 45 = .ok (.invokespecial 93, 3) := by decide +kernel
theorem d_GC_desk_48 : decode prog_1_method_5_code 48 = .ok (.athrow, 1) := by decide +kernel
theorem d_GC_desk_49 : decode prog_1_method_5_code 49 = .ok (.aload_n 0, 1) := by decide +kernel
theorem d_GC_desk_50 : decode prog_1_method_5_code 50 = .ok (.aload_n 1, 1) := by decide +kernel
theorem d_GC_desk_51 : decode prog_1_method_5_code 51 = .ok (.aload_n 0, 1) := by decide +kernel
theorem d_GC_desk_52 : decode prog_1_method_5_code 52 = .ok (.getfield 33, 3) := by decide +kernel
theorem d_GC_desk_55 : decode prog_1_method_5_code 55 = .ok (.invokevirtual 94, 3) := by decide +kernel
theorem d_GC_desk_58 : decode prog_1_method_5_code 58 = .ok (.ireturn, 1) := by decide +kernel
theorem d_Lw_issue_0 : decode method_5_code 0 = .ok (.aload_n 2, 1) := by decide +kernel
theorem d_Lw_issue_1 : decode method_5_code 1 = .ok (.iconst 0, 1) := by decide +kernel
theorem d_Lw_issue_2 : decode method_5_code 2 = .ok (.aload_n 0, 1) := by decide +kernel
theorem d_Lw_issue_3 : decode method_5_code 3 = .ok (.iload_n 1, 1) := by decide +kernel
theorem d_Lw_issue_4 : decode method_5_code 4 = .ok (.invokevirtual 22, 3) := by decide +kernel
theorem d_Lw_issue_7 : decode method_5_code 7 = .ok (.i2l, 1) := by decide +kernel
theorem d_Lw_issue_8 : decode method_5_code 8 = .ok (.lastore, 1) := by decide +kernel
theorem d_Lw_issue_9 : decode method_5_code 9 = .ok (.goto (9), 3) := by decide +kernel
theorem d_Lw_issue_12 : decode method_5_code 12 = .ok (.astore_n 3, 1) := by decide +kernel
theorem d_Lw_issue_13 : decode method_5_code 13 = .ok (.iconst 1, 1) := by decide +kernel
theorem d_Lw_issue_14 : decode method_5_code 14 = .ok (.ireturn, 1) := by decide +kernel
theorem d_Lw_issue_15 : decode method_5_code 15 = .ok (.astore_n 3, 1) := by decide +kernel
theorem d_Lw_issue_16 : decode method_5_code 16 = .ok (.iconst 2, 1) := by decide +kernel
theorem d_Lw_issue_17 : decode method_5_code 17 = .ok (.ireturn, 1) := by decide +kernel
theorem d_Lw_issue_18 : decode method_5_code 18 = .ok (.iconst 0, 1) := by decide +kernel
theorem d_Lw_issue_19 : decode method_5_code 19 = .ok (.ireturn, 1) := by decide +kernel
