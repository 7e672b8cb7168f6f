theorem d_GC_init_0 : decode prog_1_method_1_code 0 = .ok (.aload_n 0, 1) := by decide +kernel
theorem d_GC_init_1 : decode prog_1_method_1_code 1 = .ok (.invokespecial 1, 3) := by decide +kernel
theorem d_GC_init_4 : decode prog_1_method_1_code 4 = .ok (.aload_n 0, 1) := by decide +kernel
theorem d_GC_init_5 : decode prog_1_method_1_code 5 = .ok (.new 7, 3) := by decide +kernel
theorem d_GC_init_8 : decode prog_1_method_1_code 8 = .ok (.dup, 1) := by decide +kernel
theorem d_GC_init_9 : decode prog_1_method_1_code 9 = .ok (.invokespecial 9, 3) := by decide +kernel
theorem d_GC_init_12 : decode prog_1_method_1_code 12 = .ok (.putfield 10, 3) := by decide +kernel
theorem d_GC_init_15 : decode prog_1_method_1_code 15 = .ok (.aload_n 0, 1) := by decide +kernel
theorem d_GC_init_16 : decode prog_1_method_1_code 16 = .ok (.new 16, 3) := by decide +kernel
theorem d_GC_init_19 : decode prog_1_method_1_code 19 = .ok (.dup, 1) := by decide +kernel
theorem d_GC_init_20 : decode prog_1_method_1_code 20 = .ok (.invokespecial 18, 3) := by decide +kernel
theorem d_GC_init_23 : decode prog_1_method_1_code 23 = .ok (.putfield 19, 3) := by decide +kernel
theorem d_GC_init_26 : decode prog_1_method_1_code 26 = .ok (.aload_n 0, 1) := by decide +kernel
theorem d_GC_init_27 : decode prog_1_method_1_code 27 = .ok (.new 23, 3) := by decide +kernel
theorem d_GC_init_30 : decode prog_1_method_1_code 30 = .ok (.dup, 1) := by decide +kernel
theorem d_GC_init_31 : decode prog_1_method_1_code 31 = .ok (.invokespecial 25, 3) := by decide +kernel
theorem d_GC_init_34 : decode prog_1_method_1_code 34 = .ok (.putfield 26, 3) := by decide +kernel
theorem d_GC_init_37 : decode prog_1_method_1_code 37 = .ok (.aload_n 0, 1) := by decide +kernel
theorem d_GC_init_38 : decode prog_1_method_1_code 38 = .ok (.new 30, 3) := by decide +kernel
theorem d_GC_init_41 : decode prog_1_method_1_code 41 = .ok (.dup, 1) := by decide +kernel
theorem d_GC_init_42 : decode prog_1_method_1_code 42 = .ok (.invokespecial 32, 3) := by decide +kernel
theorem d_GC_init_45 : decode prog_1_method_1_code 45 = .ok (.putfield 33, 3) := by decide +kernel
theorem d_GC_init_48 : decode prog_1_method_1_code 48 = .ok (.aload_n 0, 1) := by decide +kernel
theorem d_GC_init_49 : decode prog_1_method_1_code 49 = .ok (.new 37, 3) := by decide +kernel
theorem d_GC_init_52 : decode prog_1_method_1_code 52 = .ok (.dup, 1) := by decide +kernel
theorem d_GC_init_53 : decode prog_1_method_1_code 53 = .ok (.invokespecial 39, 3) := by decide +kernel
theorem d_GC_init_56 : decode prog_1_method_1_code 56 = .ok (.putfield 40, 3) := by decide +kernel
theorem d_GC_init_59 : decode prog_1_method_1_code 59 = .ok (.aload_n 0, 1) := by decide +kernel
theorem d_GC_init_60 : decode prog_1_method_1_code 60 = .ok (.new 37, 3) := by decide +kernel
theorem d_GC_init_63 : decode prog_1_method_1_code 63 = .ok (.dup, 1) := by decide +kernel
theorem d_GC_init_64 : decode prog_1_method_1_code 64 = .ok (.invokespecial 39, 3) := by decide +kernel
theorem d_GC_init_67 : decode prog_1_method_1_code 67 = .ok (.putfield 44, 3) := by decide +kernel
theorem d_GC_init_70 : decode prog_1_method_1_code 70 = .ok (.aload_n 0, 1) := by decide +kernel
theorem d_GC_init_71 : decode prog_1_method_1_code 71 = .ok (.new 30, 3) := by decide +kernel
theorem d_GC_init_74 : decode prog_1_method_1_code 74 = .ok (.dup, 1) := by decide +kernel
theorem d_GC_init_75 : decode prog_1_method_1_code 75 = .ok (.invokespecial 32, 3) := by decide +kernel
theorem d_GC_init_78 : decode prog_1_method_1_code 78 = .ok (.putfield 47, 3) := by decide +kernel
theorem d_GC_init_81 : decode prog_1_method_1_code 81 = .ok (.aload_n 0, 1) := by decide +kernel
theorem d_GC_init_82 : decode prog_1_method_1_code 82 = .ok (.iconst 3, 1) := by decide +kernel
theorem d_GC_init_83 : decode prog_1_method_1_code 83 = .ok (.putfield 50, 3) := by decide +kernel
theorem d_GC_init_86 : decode prog_1_method_1_code 86 = .ok (.aload_n 0, 1) := by decide +kernel
theorem d_GC_init_87 : decode prog_1_method_1_code 87 = .ok (.bipush (30), 2) := by decide +kernel
theorem d_GC_init_89 : decode prog_1_method_1_code 89 = .ok (.putfield 54, 3) := by decide +kernel
theorem d_GC_init_92 : decode prog_1_method_1_code 92 = .ok (.aload_n 0, 1) := by decide +kernel
theorem d_GC_init_93 : decode prog_1_method_1_code 93 = .ok (.bipush (10), 2) := by decide +kernel
theorem d_GC_init_95 : decode prog_1_method_1_code 95 = .ok (.putfield 57, 3) := by decide +kernel
theorem d_GC_init_98 : decode prog_1_method_1_code 98 = .ok (.return_, 1) := by decide +kernel
theorem d_Ln_init_0 : decode prog_7_method_1_code 0 = .ok (.aload_n 0, 1) := by decide +kernel
theorem d_Ln_init_1 : decode prog_7_method_1_code 1 = .ok (.invokespecial 3, 3) := by decide +kernel
theorem d_Ln_init_4 : decode prog_7_method_1_code 4 = .ok (.aload_n 0, 1) := by decide +kernel
theorem d_Ln_init_5 : decode prog_7_method_1_code 5 = .ok (.bipush (40), 2) := by decide +kernel
theorem d_Ln_init_7 : decode prog_7_method_1_code 7 = .ok (.newarray .char, 2) := by decide +kernel
theorem d_Ln_init_9 : decode prog_7_method_1_code 9 = .ok (.putfield 9, 3) := by decide +kernel
theorem d_Ln_init_12 : decode prog_7_method_1_code 12 = .ok (.return_, 1) := by decide +kernel
theorem d_Rd_init_0 : decode prog_9_method_1_code 0 = .ok (.aload_n 0, 1) := by decide +kernel
theorem d_Rd_init_1 : decode prog_9_method_1_code 1 = .ok (.invokespecial 3, 3) := by decide +kernel
theorem d_Rd_init_4 : decode prog_9_method_1_code 4 = .ok (.aload_n 0, 1) := by decide +kernel
theorem d_Rd_init_5 : decode prog_9_method_1_code 5 = .ok (.bipush (40), 2) := by decide +kernel
theorem d_Rd_init_7 : decode prog_9_method_1_code 7 = .ok (.newarray .int, 2) := by decide +kernel
theorem d_Rd_init_9 : decode prog_9_method_1_code 9 = .ok (.putfield 9, 3) := by decide +kernel
theorem d_Rd_init_12 : decode prog_9_method_1_code 12 = .ok (.return_, 1) := by decide +kernel
theorem d_Jg_init_0 : decode prog_6_method_1_code 0 = .ok (.aload_n 0, 1) := by decide +kernel
theorem d_Jg_init_1 : decode prog_6_method_1_code 1 = .ok (.invokespecial 5, 3) := by decide +kernel
theorem d_Jg_init_4 : decode prog_6_method_1_code 4 = .ok (.aload_n 0, 1) := by decide +kernel
theorem d_Jg_init_5 : decode prog_6_method_1_code 5 = .ok (.new 11, 3) := by decide +kernel
theorem d_Jg_init_8 : decode prog_6_method_1_code 8 = .ok (.dup, 1) := by decide +kernel
theorem d_Jg_init_9 : decode prog_6_method_1_code 9 = .ok (.invokespecial 13, 3) := by decide +kernel
theorem d_Jg_init_12 : decode prog_6_method_1_code 12 = .ok (.putfield 14, 3) := by decide +kernel
theorem d_Jg_init_15 : decode prog_6_method_1_code 15 = .ok (.aload_n 0, 1) := by decide +kernel
theorem d_Jg_init_16 : decode prog_6_method_1_code 16 = .ok (.new 18, 3) := by decide +kernel
theorem d_Jg_init_19 : decode prog_6_method_1_code 19 = .ok (.dup, 1) := by decide +kernel
theorem d_Jg_init_20 : decode prog_6_method_1_code 20 = .ok (.invokespecial 20, 3) := by decide +kernel
theorem d_Jg_init_23 : decode prog_6_method_1_code 23 = .ok (.putfield 21, 3) := by decide +kernel
theorem d_Jg_init_26 : decode prog_6_method_1_code 26 = .ok (.aload_n 0, 1) := by decide +kernel
theorem d_Jg_init_27 : decode prog_6_method_1_code 27 = .ok (.iconst 5, 1) := by decide +kernel
theorem d_Jg_init_28 : decode prog_6_method_1_code 28 = .ok (.anewarray 18, 3) := by decide +kernel
theorem d_Jg_init_31 : decode prog_6_method_1_code 31 = .ok (.dup, 1) := by decide +kernel
theorem d_Jg_init_32 : decode prog_6_method_1_code 32 = .ok (.iconst 0, 1) := by decide +kernel
theorem d_Jg_init_33 : decode prog_6_method_1_code 33 = .ok (.aload_n 0, 1) := by decide +kernel
theorem d_Jg_init_34 : decode prog_6_method_1_code 34 = .ok (.getfield 21, 3) := by decide +kernel
theorem d_Jg_init_37 : decode prog_6_method_1_code 37 = .ok (.aastore, 1) := by decide +kernel
theorem d_Jg_init_38 : decode prog_6_method_1_code 38 = .ok (.dup, 1) := by decide +kernel
theorem d_Jg_init_39 : decode prog_6_method_1_code 39 = .ok (.iconst 1, 1) := by decide +kernel
theorem d_Jg_init_40 : decode prog_6_method_1_code 40 = .ok (.aload_n 0, 1) := by decide +kernel
theorem d_Jg_init_41 : decode prog_6_method_1_code 41 = .ok (.getfield 21, 3) := by decide +kernel
theorem d_Jg_init_44 : decode prog_6_method_1_code 44 = .ok (.aastore, 1) := by decide +kernel
theorem d_Jg_init_45 : decode prog_6_method_1_code 45 = .ok (.dup, 1) := by decide +kernel
theorem d_Jg_init_46 : decode prog_6_method_1_code 46 = .ok (.iconst 2, 1) := by decide +kernel
theorem d_Jg_init_47 : decode prog_6_method_1_code 47 = .ok (.aload_n 0, 1) := by decide +kernel
theorem d_Jg_init_48 : decode prog_6_method_1_code 48 = .ok (.getfield 21, 3) := by decide +kernel
theorem d_Jg_init_51 : decode prog_6_method_1_code 51 = .ok (.aastore, 1) := by decide +kernel
theorem d_Jg_init_52 : decode prog_6_method_1_code 52 = .ok (.dup, 1) := by decide +kernel
theorem d_Jg_init_53 : decode prog_6_method_1_code 53 = .ok (.iconst 3, 1) := by decide +kernel
theorem d_Jg_init_54 : decode prog_6_method_1_code 54 = .ok (.aload_n 0, 1) := by decide +kernel
theorem d_Jg_init_55 : decode prog_6_method_1_code 55 = .ok (.getfield 21, 3) := by decide +kernel
theorem d_Jg_init_58 : decode prog_6_method_1_code 58 = .ok (.aastore, 1) := by decide +kernel
theorem d_Jg_init_59 : decode prog_6_method_1_code 59 = .ok (.dup, 1) := by decide +kernel
theorem d_Jg_init_60 : decode prog_6_method_1_code 60 = .ok (.iconst 4, 1) := by decide +kernel
theorem d_Jg_init_61 : decode prog_6_method_1_code 61 = .ok (.aload_n 0, 1) := by decide +kernel
theorem d_Jg_init_62 : decode prog_6_method_1_code 62 = .ok (.getfield 21, 3) := by decide +kernel
theorem d_Jg_init_65 : decode prog_6_method_1_code 65 = .ok (.aastore, 1) := by decide +kernel
theorem d_Jg_init_66 : decode prog_6_method_1_code 66 = .ok (.putfield 25, 3) := by decide +kernel
theorem d_Jg_init_69 : decode prog_6_method_1_code 69 = .ok (.aload_n 0, 1) := by decide +kernel
theorem d_Jg_init_70 : decode prog_6_method_1_code 70 = .ok (.bipush (8), 2) := by decide +kernel
theorem d_Jg_init_72 : decode prog_6_method_1_code 72 = .ok (.newarray .int, 2) := by decide +kernel
theorem d_Jg_init_74 : decode prog_6_method_1_code 74 = .ok (.putfield 29, 3) := by decide +kernel
theorem d_Jg_init_77 : decode prog_6_method_1_code 77 = .ok (.aload_n 0, 1) := by decide +kernel
theorem d_Jg_init_78 : decode prog_6_method_1_code 78 = .ok (.bipush (40), 2) := by decide +kernel
theorem d_Jg_init_80 : decode prog_6_method_1_code 80 = .ok (.newarray .int, 2) := by decide +kernel
theorem d_Jg_init_82 : decode prog_6_method_1_code 82 = .ok (.putfield 33, 3) := by decide +kernel
theorem d_Jg_init_85 : decode prog_6_method_1_code 85 = .ok (.return_, 1) := by decide +kernel
theorem d_Fa_init_0 : decode prog_5_method_1_code 0 = .ok (.aload_n 0, 1) := by decide +kernel
theorem d_Fa_init_1 : decode prog_5_method_1_code 1 = .ok (.invokespecial 3, 3) := by decide +kernel
theorem d_Fa_init_4 : decode prog_5_method_1_code 4 = .ok (.aload_n 0, 1) := by decide +kernel
theorem d_Fa_init_5 : decode prog_5_method_1_code 5 = .ok (.bipush (31), 2) := by decide +kernel
theorem d_Fa_init_7 : decode prog_5_method_1_code 7 = .ok (.iconst 5, 1) := by decide +kernel
theorem d_Fa_init_8 : decode prog_5_method_1_code 8 = .ok (.multianewarray 11 2, 4) := by decide +kernel
theorem d_Fa_init_12 : decode prog_5_method_1_code 12 = .ok (.putfield 13, 3) := by decide +kernel
theorem d_Fa_init_15 : decode prog_5_method_1_code 15 = .ok (.return_, 1) := by decide +kernel
theorem d_Bk_init_0 : decode prog_3_method_1_code 0 = .ok (.aload_n 0, 1) := by decide +kernel
theorem d_Bk_init_1 : decode prog_3_method_1_code 1 = .ok (.invokespecial 1, 3) := by decide +kernel
theorem d_Bk_init_4 : decode prog_3_method_1_code 4 = .ok (.aload_n 0, 1) := by decide +kernel
theorem d_Bk_init_5 : decode prog_3_method_1_code 5 = .ok (.new 7, 3) := by decide +kernel
theorem d_Bk_init_8 : decode prog_3_method_1_code 8 = .ok (.dup, 1) := by decide +kernel
theorem d_Bk_init_9 : decode prog_3_method_1_code 9 = .ok (.invokespecial 9, 3) := by decide +kernel
theorem d_Bk_init_12 : decode prog_3_method_1_code 12 = .ok (.putfield 10, 3) := by decide +kernel
theorem d_Bk_init_15 : decode prog_3_method_1_code 15 = .ok (.return_, 1) := by decide +kernel
theorem d_AL_init_0 : decode prog_27_method_2_code 0 = .ok (.aload_n 0, 1) := by decide +kernel
theorem d_AL_init_1 : decode prog_27_method_2_code 1 = .ok (.invokespecial 1, 3) := by decide +kernel
theorem d_AL_init_4 : decode prog_27_method_2_code 4 = .ok (.aload_n 0, 1) := by decide +kernel
theorem d_AL_init_5 : decode prog_27_method_2_code 5 = .ok (.getstatic 39, 3) := by decide +kernel
theorem d_AL_init_8 : decode prog_27_method_2_code 8 = .ok (.putfield 9, 3) := by decide +kernel
theorem d_AL_init_11 : decode prog_27_method_2_code 11 = .ok (.return_, 1) := by decide +kernel
theorem d_AbL_init_0 : decode prog_26_method_1_code 0 = .ok (.aload_n 0, 1) := by decide +kernel
theorem d_AbL_init_1 : decode prog_26_method_1_code 1 = .ok (.invokespecial 1, 3) := by decide +kernel
theorem d_AbL_init_4 : decode prog_26_method_1_code 4 = .ok (.aload_n 0, 1) := by decide +kernel
theorem d_AbL_init_5 : decode prog_26_method_1_code 5 = .ok (.iconst 0, 1) := by decide +kernel
theorem d_AbL_init_6 : decode prog_26_method_1_code 6 = .ok (.putfield 7, 3) := by decide +kernel
theorem d_AbL_init_9 : decode prog_26_method_1_code 9 = .ok (.return_, 1) := by decide +kernel
theorem d_AbC_init_0 : decode prog_25_method_1_code 0 = .ok (.aload_n 0, 1) := by decide +kernel
theorem d_AbC_init_1 : decode prog_25_method_1_code 1 = .ok (.invokespecial 1, 3) := by decide +kernel
theorem d_AbC_init_4 : decode prog_25_method_1_code 4 = .ok (.return_, 1) := by decide +kernel
theorem d_GC_type_0 : decode prog_1_method_2_code 0 = .ok (.aload_n 0, 1) := by decide +kernel
theorem d_GC_type_1 : decode prog_1_method_2_code 1 = .ok (.getfield 10, 3) := by decide +kernel
theorem d_GC_type_4 : decode prog_1_method_2_code 4 = .ok (.iload_n 1, 1) := by decide +kernel
theorem d_GC_type_5 : decode prog_1_method_2_code 5 = .ok (.invokevirtual 60, 3) := by decide +kernel
theorem d_GC_type_8 : decode prog_1_method_2_code 8 = .ok (.ireturn, 1) := by decide +kernel
theorem d_Ln_put_0 : decode prog_7_method_2_code 0 = .ok (.iload_n 1, 1) := by decide +kernel
theorem d_Ln_put_1 : decode prog_7_method_2_code 1 = .ok (.bipush (32), 2) := by decide +kernel
theorem d_Ln_put_3 : decode prog_7_method_2_code 3 = .ok (.if_icmp .lt (18), 3) := by decide +kernel
theorem d_Ln_put_6 : decode prog_7_method_2_code 6 = .ok (.iload_n 1, 1) := by decide +kernel
theorem d_Ln_put_7 : decode prog_7_method_2_code 7 = .ok (.bipush (126), 2) := by decide +kernel
theorem d_Ln_put_9 : decode prog_7_method_2_code 9 = .ok (.if_icmp .gt (12), 3) := by decide +kernel
theorem d_Ln_put_12 : decode prog_7_method_2_code 12 = .ok (.aload_n 0, 1) := by decide +kernel
theorem d_Ln_put_13 : decode prog_7_method_2_code 13 = .ok (.getfield 15, 3) := by decide +kernel
theorem d_Ln_put_16 : decode prog_7_method_2_code 16 = .ok (.bipush (40), 2) := by decide +kernel
theorem d_Ln_put_18 : decode prog_7_method_2_code 18 = .ok (.if_icmp .lt (5), 3) := by decide +kernel
theorem d_Ln_put_21 : decode prog_7_method_2_code 21 = .ok (.iconst 0, 1) := by decide +kernel
theorem d_Ln_put_22 : decode prog_7_method_2_code 22 = .ok (.ireturn, 1) := by decide +kernel
theorem d_Ln_put_23 : decode prog_7_method_2_code 23 = .ok (.aload_n 0, 1) := by decide +kernel
theorem d_Ln_put_24 : decode prog_7_method_2_code 24 = .ok (.getfield 9, 3) := by decide +kernel
theorem d_Ln_put_27 : decode prog_7_method_2_code 27 = .ok (.aload_n 0, 1) := by decide +kernel
theorem d_Ln_put_28 : decode prog_7_method_2_code 28 = .ok (.getfield 15, 3) := by decide +kernel
theorem d_Ln_put_31 : decode prog_7_method_2_code 31 = .ok (.iload_n 1, 1) := by decide +kernel
theorem d_Ln_put_32 : decode prog_7_method_2_code 32 = .ok (.castore, 1) := by decide +kernel
theorem d_Ln_put_33 : decode prog_7_method_2_code 33 = .ok (.aload_n 0, 1) := by decide +kernel
theorem d_Ln_put_34 : decode prog_7_method_2_code 34 = .ok (.dup, 1) := by decide +kernel
theorem d_Ln_put_35 : decode prog_7_method_2_code 35 = .ok (.getfield 15, 3) := by decide +kernel
theorem d_Ln_put_38 : decode prog_7_method_2_code 38 = .ok (.iconst 1, 1) := by decide +kernel
theorem d_Ln_put_39 : decode prog_7_method_2_code 39 = .ok (.iadd, 1) := by decide +kernel
theorem d_Ln_put_40 : decode prog_7_method_2_code 40 = .ok (.putfield 15, 3) := by decide +kernel
theorem d_Ln_put_43 : decode prog_7_method_2_code 43 = .ok (.iconst 1, 1) := by decide +kernel
theorem d_Ln_put_44 : decode prog_7_method_2_code 44 = .ok (.ireturn, 1) := by decide +kernel
theorem d_GC_wipe_0 : decode prog_1_method_3_code 0 = .ok (.aload_n 0, 1) := by decide +kernel
theorem d_GC_wipe_1 : decode prog_1_method_3_code 1 = .ok (.getfield 10, 3) := by decide +kernel
theorem d_GC_wipe_4 : decode prog_1_method_3_code 4 = .ok (.iconst 0, 1) := by decide +kernel
theorem d_GC_wipe_5 : decode prog_1_method_3_code 5 = .ok (.putfield 64, 3) := by decide +kernel
theorem d_GC_wipe_8 : decode prog_1_method_3_code 8 = .ok (.return_, 1) := by decide +kernel
theorem d_GC_clear_0 : decode prog_1_method_6_code 0 = .ok (.aload_n 0, 1) := by decide +kernel
theorem d_GC_clear_1 : decode prog_1_method_6_code 1 = .ok (.getfield 33, 3) := by decide +kernel
theorem d_GC_clear_4 : decode prog_1_method_6_code 4 = .ok (.getfield 82, 3) := by decide +kernel
theorem d_GC_clear_7 : decode prog_1_method_6_code 7 = .ok (.invokeinterface 98 1, 5) := by decide +kernel
theorem d_GC_clear_12 : decode prog_1_method_6_code 12 = .ok (.return_, 1) := by decide +kernel
theorem d_AL_clear_0 : decode prog_27_method_40_code 0 = .ok (.aload_n 0, 1) := by decide +kernel
theorem d_AL_clear_1 : decode prog_27_method_40_code 1 = .ok (.dup, 1) := by decide +kernel
theorem d_AL_clear_2 : decode prog_27_method_40_code 2 = .ok (.getfield 63, 3) := by decide +kernel
theorem d_AL_clear_5 : decode prog_27_method_40_code 5 = .ok (.iconst 1, 1) := by decide +kernel
theorem d_AL_clear_6 : decode prog_27_method_40_code 6 = .ok (.iadd, 1) := by decide +kernel
theorem d_AL_clear_7 : decode prog_27_method_40_code 7 = .ok (.putfield 63, 3) := by decide +kernel
theorem d_AL_clear_10 : decode prog_27_method_40_code 10 = .ok (.aload_n 0, 1) := by decide +kernel
theorem d_AL_clear_11 : decode prog_27_method_40_code 11 = .ok (.getfield 9, 3) := by decide +kernel
theorem d_AL_clear_14 : decode prog_27_method_40_code 14 = .ok (.astore_n 1, 1) := by decide +kernel
theorem d_AL_clear_15 : decode prog_27_method_40_code 15 = .ok (.aload_n 0, 1) := by decide +kernel
theorem d_AL_clear_16 : decode prog_27_method_40_code 16 = .ok (.getfield 48, 3) := by decide +kernel
theorem d_AL_clear_19 : decode prog_27_method_40_code 19 = .ok (.istore_n 2, 1) := by decide +kernel
theorem d_AL_clear_20 : decode prog_27_method_40_code 20 = .ok (.aload_n 0, 1) := by decide +kernel
theorem d_AL_clear_21 : decode prog_27_method_40_code 21 = .ok (.iconst 0, 1) := by decide +kernel
theorem d_AL_clear_22 : decode prog_27_method_40_code 22 = .ok (.dup_x1, 1) := by decide +kernel
theorem d_AL_clear_23 : decode prog_27_method_40_code 23 = .ok (.putfield 48, 3) := by decide +kernel
theorem d_AL_clear_26 : decode prog_27_method_40_code 26 = .ok (.istore_n 3, 1) := by decide +kernel
theorem d_AL_clear_27 : decode prog_27_method_40_code 27 = .ok (.iload_n 3, 1) := by decide +kernel
theorem d_AL_clear_28 : decode prog_27_method_40_code 28 = .ok (.iload_n 2, 1) := by decide +kernel
theorem d_AL_clear_29 : decode prog_27_method_40_code 29 = .ok (.if_icmp .ge (13), 3) := by decide +kernel
theorem d_AL_clear_32 : decode prog_27_method_40_code 32 = .ok (.aload_n 1, 1) := by decide +kernel
theorem d_AL_clear_33 : decode prog_27_method_40_code 33 = .ok (.iload_n 3, 1) := by decide +kernel
theorem d_AL_clear_34 : decode prog_27_method_40_code 34 = .ok (.aconst_null, 1) := by decide +kernel
theorem d_AL_clear_35 : decode prog_27_method_40_code 35 = .ok (.aastore, 1) := by decide +kernel
theorem d_AL_clear_36 : decode prog_27_method_40_code 36 = .ok (.iinc 3 (1), 3) := by decide +kernel
theorem d_AL_clear_39 : decode prog_27_method_40_code 39 = .ok (.goto (-12), 3) := by decide +kernel
theorem d_AL_clear_42 : decode prog_27_method_40_code 42 = .ok (.return_, 1) := by decide +kernel
theorem d_GC_limits_0 : decode prog_1_method_11_code 0 = .ok (.iload_n 1, 1) := by decide +kernel
theorem d_GC_limits_1 : decode prog_1_method_11_code 1 = .ok (.iconst 1, 1) := by decide +kernel
theorem d_GC_limits_2 : decode prog_1_method_11_code 2 = .ok (.if_icmp .lt (20), 3) := by decide +kernel
theorem d_GC_limits_5 : decode prog_1_method_11_code 5 = .ok (.iload_n 1, 1) := by decide +kernel
theorem d_GC_limits_6 : decode prog_1_method_11_code 6 = .ok (.bipush (30), 2) := by decide +kernel
theorem d_GC_limits_8 : decode prog_1_method_11_code 8 = .ok (.if_icmp .gt (14), 3) := by decide +kernel
theorem d_GC_limits_11 : decode prog_1_method_11_code 11 = .ok (.iload_n 2, 1) := by decide +kernel
theorem d_GC_limits_12 : decode prog_1_method_11_code 12 = .ok (.iconst 1, 1) := by decide +kernel
theorem d_GC_limits_13 : decode prog_1_method_11_code 13 = .ok (.if_icmp .lt (9), 3) := by decide +kernel
theorem d_GC_limits_16 : decode prog_1_method_11_code 16 = .ok (.iload_n 2, 1) := by decide +kernel
theorem d_GC_limits_17 : decode prog_1_method_11_code 17 = .ok (.bipush (12), 2) := by decide +kernel
theorem d_GC_limits_19 : decode prog_1_method_11_code 19 = .ok (.if_icmp .le (5), 3) := by decide +kernel
theorem d_GC_limits_22 : decode prog_1_method_11_code 22 = .ok (.iconst 0, 1) := by decide +kernel
theorem d_GC_limits_23 : decode prog_1_method_11_code 23 = .ok (.ireturn, 1) := by decide +kernel
theorem d_GC_limits_24 : decode prog_1_method_11_code 24 = .ok (.aload_n 0, 1) := by decide +kernel
theorem d_GC_limits_25 : decode prog_1_method_11_code 25 = .ok (.iload_n 1, 1) := by decide +kernel
theorem d_GC_limits_26 : decode prog_1_method_11_code 26 = .ok (.putfield 54, 3) := by decide +kernel
theorem d_GC_limits_29 : decode prog_1_method_11_code 29 = .ok (.aload_n 0, 1) := by decide +kernel
theorem d_GC_limits_30 : decode prog_1_method_11_code 30 = .ok (.iload_n 2, 1) := by decide +kernel
theorem d_GC_limits_31 : decode prog_1_method_11_code 31 = .ok (.putfield 57, 3) := by decide +kernel
theorem d_GC_limits_34 : decode prog_1_method_11_code 34 = .ok (.iconst 1, 1) := by decide +kernel
theorem d_GC_limits_35 : decode prog_1_method_11_code 35 = .ok (.ireturn, 1) := by decide +kernel
theorem d_GC_latest_0 : decode prog_1_method_13_code 0 = .ok (.iload_n 1, 1) := by decide +kernel
theorem d_GC_latest_1 : decode prog_1_method_13_code 1 = .ok (.tableswitch 66 (0) 3 #[31, 39, 50, 58], 31) := by decide +kernel
theorem d_GC_latest_32 : decode prog_1_method_13_code 32 = .ok (.aload_n 0, 1) := by decide +kernel
theorem d_GC_latest_33 : decode prog_1_method_13_code 33 = .ok (.getfield 26, 3) := by decide +kernel
theorem d_GC_latest_36 : decode prog_1_method_13_code 36 = .ok (.getfield 199, 3) := by decide +kernel
theorem d_GC_latest_39 : decode prog_1_method_13_code 39 = .ok (.ireturn, 1) := by decide +kernel
theorem d_GC_latest_40 : decode prog_1_method_13_code 40 = .ok (.aload_n 0, 1) := by decide +kernel
theorem d_GC_latest_41 : decode prog_1_method_13_code 41 = .ok (.getfield 26, 3) := by decide +kernel
theorem d_GC_latest_44 : decode prog_1_method_13_code 44 = .ok (.getfield 202, 3) := by decide +kernel
theorem d_GC_latest_47 : decode prog_1_method_13_code 47 = .ok (.getfield 206, 3) := by decide +kernel
theorem d_GC_latest_50 : decode prog_1_method_13_code 50 = .ok (.ireturn, 1) := by decide +kernel
theorem d_GC_latest_51 : decode prog_1_method_13_code 51 = .ok (.aload_n 0, 1) := by decide +kernel
theorem d_GC_latest_52 : decode prog_1_method_13_code 52 = .ok (.getfield 26, 3) := by decide +kernel
theorem d_GC_latest_55 : decode prog_1_method_13_code 55 = .ok (.getfield 210, 3) := by decide +kernel
theorem d_GC_latest_58 : decode prog_1_method_13_code 58 = .ok (.ireturn, 1) := by decide +kernel
theorem d_GC_latest_59 : decode prog_1_method_13_code 59 = .ok (.aload_n 0, 1) := by decide +kernel
theorem d_GC_latest_60 : decode prog_1_method_13_code 60 = .ok (.getfield 26, 3) := by decide +kernel
theorem d_GC_latest_63 : decode prog_1_method_13_code 63 = .ok (.getfield 213, 3) := by decide +kernel
theorem d_GC_latest_66 : decode prog_1_method_13_code 66 = .ok (.ireturn, 1) := by decide +kernel
theorem d_GC_latest_67 : decode prog_1_method_13_code 67 = .ok (.iconst 0, 1) := by decide +kernel
theorem d_GC_latest_68 : decode prog_1_method_13_code 68 = .ok (.ireturn, 1) := by decide +kernel
theorem d_GC_count_0 : decode prog_1_method_16_code 0 = .ok (.iload_n 1, 1) := by decide +kernel
theorem d_GC_count_1 : decode prog_1_method_16_code 1 = .ok (.tableswitch 98 (0) 5 #[39, 49, 59, 64, 77, 90], 39) := by decide +kernel
theorem d_GC_count_40 : decode prog_1_method_16_code 40 = .ok (.aload_n 0, 1) := by decide +kernel
theorem d_GC_count_41 : decode prog_1_method_16_code 41 = .ok (.getfield 44, 3) := by decide +kernel
theorem d_GC_count_44 : decode prog_1_method_16_code 44 = .ok (.invokeinterface 85 1, 5) := by decide +kernel
theorem d_GC_count_49 : decode prog_1_method_16_code 49 = .ok (.ireturn, 1) := by decide +kernel
theorem d_GC_count_50 : decode prog_1_method_16_code 50 = .ok (.aload_n 0, 1) := by decide +kernel
theorem d_GC_count_51 : decode prog_1_method_16_code 51 = .ok (.getfield 40, 3) := by decide +kernel
theorem d_GC_count_54 : decode prog_1_method_16_code 54 = .ok (.invokeinterface 85 1, 5) := by decide +kernel
theorem d_GC_count_59 : decode prog_1_method_16_code 59 = .ok (.ireturn, 1) := by decide +kernel
theorem d_GC_count_60 : decode prog_1_method_16_code 60 = .ok (.aload_n 0, 1) := by decide +kernel
theorem d_GC_count_61 : decode prog_1_method_16_code 61 = .ok (.getfield 50, 3) := by decide +kernel
theorem d_GC_count_64 : decode prog_1_method_16_code 64 = .ok (.ireturn, 1) := by decide +kernel
theorem d_GC_count_65 : decode prog_1_method_16_code 65 = .ok (.aload_n 0, 1) := by decide +kernel
theorem d_GC_count_66 : decode prog_1_method_16_code 66 = .ok (.getfield 47, 3) := by decide +kernel
theorem d_GC_count_69 : decode prog_1_method_16_code 69 = .ok (.getfield 82, 3) := by decide +kernel
theorem d_GC_count_72 : decode prog_1_method_16_code 72 = .ok (.invokeinterface 85 1, 5) := by decide +kernel
theorem d_GC_count_77 : decode prog_1_method_16_code 77 = .ok (.ireturn, 1) := by decide +kernel
theorem d_GC_count_78 : decode prog_1_method_16_code 78 = .ok (.aload_n 0, 1) := by decide +kernel
theorem d_GC_count_79 : decode prog_1_method_16_code 79 = .ok (.getfield 33, 3) := by decide +kernel
theorem d_GC_count_82 : decode prog_1_method_16_code 82 = .ok (.getfield 82, 3) := by decide +kernel
theorem d_GC_count_85 : decode prog_1_method_16_code 85 = .ok (.invokeinterface 85 1, 5) := by decide +kernel
theorem d_GC_count_90 : decode prog_1_method_16_code 90 = .ok (.ireturn, 1) := by decide +kernel
theorem d_GC_count_91 : decode prog_1_method_16_code 91 = .ok (.aload_n 0, 1) := by decide +kernel
theorem d_GC_count_92 : decode prog_1_method_16_code 92 = .ok (.getfield 10, 3) := by decide +kernel
theorem d_GC_count_95 : decode prog_1_method_16_code 95 = .ok (.getfield 64, 3) := by decide +kernel
theorem d_GC_count_98 : decode prog_1_method_16_code 98 = .ok (.ireturn, 1) := by decide +kernel
theorem d_GC_count_99 : decode prog_1_method_16_code 99 = .ok (.iconst (-1), 1) := by decide +kernel
theorem d_GC_count_100 : decode prog_1_method_16_code 100 = .ok (.ireturn, 1) := by decide +kernel
theorem d_AL_size_0 : decode prog_27_method_8_code 0 = .ok (.aload_n 0, 1) := by decide +kernel
theorem d_AL_size_1 : decode prog_27_method_8_code 1 = .ok (.getfield 48, 3) := by decide +kernel
theorem d_AL_size_4 : decode prog_27_method_8_code 4 = .ok (.ireturn, 1) := by decide +kernel
theorem d_Lw_clause_0 : decode method_3_code 0 = .ok (.aload_n 1, 1) := by decide +kernel
theorem d_Lw_clause_1 : decode method_3_code 1 = .ok (.iconst 0, 1) := by decide +kernel
theorem d_Lw_clause_2 : decode method_3_code 2 = .ok (.aload_n 0, 1) := by decide +kernel
theorem d_Lw_clause_3 : decode method_3_code 3 = .ok (.invokevirtual 7, 3) := by decide +kernel
theorem d_Lw_clause_6 : decode method_3_code 6 = .ok (.i2l, 1) := by decide +kernel
theorem d_Lw_clause_7 : decode method_3_code 7 = .ok (.lastore, 1) := by decide +kernel
theorem d_Lw_clause_8 : decode method_3_code 8 = .ok (.goto (12), 3) := by decide +kernel
theorem d_Lw_clause_11 : decode method_3_code 11 = .ok (.astore_n 2, 1) := by decide +kernel
theorem d_Lw_clause_12 : decode method_3_code 12 = .ok (.iconst 1, 1) := by decide +kernel
theorem d_Lw_clause_13 : decode method_3_code 13 = .ok (.ireturn, 1) := by decide +kernel
theorem d_Lw_clause_14 : decode method_3_code 14 = .ok (.astore_n 2, 1) := by decide +kernel
theorem d_Lw_clause_15 : decode method_3_code 15 = .ok (.iconst 2, 1) := by decide +kernel
theorem d_Lw_clause_16 : decode method_3_code 16 = .ok (.ireturn, 1) := by decide +kernel
theorem d_Lw_clause_17 : decode method_3_code 17 = .ok (.astore_n 2, 1) := by decide +kernel
theorem d_Lw_clause_18 : decode method_3_code 18 = .ok (.iconst 3, 1) := by decide +kernel
theorem d_Lw_clause_19 : decode method_3_code 19 = .ok (.ireturn, 1) := by decide +kernel
theorem d_Lw_clause_20 : decode method_3_code 20 = .ok (.iconst 0, 1) := by decide +kernel
theorem d_Lw_clause_21 : decode method_3_code 21 = .ok (.ireturn, 1) := by decide +kernel
theorem d_GC_clause_0 : decode prog_1_method_4_code 0 = .ok (.aload_n 0, 1) := by decide +kernel
theorem d_GC_clause_1 : decode prog_1_method_4_code 1 = .ok (.getfield 19, 3) := by decide +kernel
theorem d_GC_clause_4 : decode prog_1_method_4_code 4 = .ok (.aload_n 0, 1) := by decide +kernel
theorem d_GC_clause_5 : decode prog_1_method_4_code 5 = .ok (.getfield 10, 3) := by decide +kernel
theorem d_GC_clause_8 : decode prog_1_method_4_code 8 = .ok (.invokevirtual 67, 3) := by decide +kernel
theorem d_GC_clause_11 : decode prog_1_method_4_code 11 = .ok (.astore_n 1, 1) := by decide +kernel
theorem d_GC_clause_12 : decode prog_1_method_4_code 12 = .ok (.aload_n 1, 1) := by decide +kernel
theorem d_GC_clause_13 : decode prog_1_method_4_code 13 = .ok (.ifnonnull (11), 3) := by decide +kernel
theorem d_GC_clause_16 : decode prog_1_method_4_code 16 = .ok (.new 71, 3) := by decide +kernel
theorem d_GC_clause_19 : decode prog_1_method_4_code 19 = .ok (.dup, 1) := by decide +kernel
theorem d_GC_clause_20 : decode prog_1_method_4_code 20 = .ok (.invokespecial 73, 3) := by decide +kernel
theorem d_GC_clause_23 : decode prog_1_method_4_code 23 = .ok (.athrow, 1) := by decide +kernel
theorem d_GC_clause_24 : decode prog_1_method_4_code 24 = .ok (.aload_n 1, 1) := by decide +kernel
theorem d_GC_clause_25 : decode prog_1_method_4_code 25 = .ok (.getfield 74, 3) := by decide +kernel
theorem d_GC_clause_28 : decode prog_1_method_4_code 28 = .ok (.iconst 4, 1) := by decide +kernel
theorem d_GC_clause_29 : decode prog_1_method_4_code 29 = .ok (.if_icmp .eq (11), 3) := by decide +kernel
theorem d_GC_clause_32 : decode prog_1_method_4_code 32 = .ok (.aload_n 1, 1) := by decide +kernel
theorem d_GC_clause_33 : decode prog_1_method_4_code 33 = .ok (.getfield 74, 3) := by decide +kernel
theorem d_GC_clause_36 : decode prog_1_method_4_code 36 = .ok (.iconst 5, 1) := by decide +kernel
theorem d_GC_clause_37 : decode prog_1_method_4_code 37 = .ok (.if_icmp .ne (11), 3) := by decide +kernel
theorem d_GC_clause_40 : decode prog_1_method_4_code 40 = .ok (.new 79, 3) := by decide +kernel
theorem d_GC_clause_43 : decode prog_1_method_4_code 43 = .ok (.dup, 1) := by decide +kernel
theorem d_GC_clause_44 : decode prog_1_method_4_code 44 = .ok (.invokespecial 81, 3) := by decide +kernel
theorem d_GC_clause_47 : decode prog_1_method_4_code 47 = .ok (.athrow, 1) := by decide +kernel
theorem d_GC_clause_48 : decode prog_1_method_4_code 48 = .ok (.aload_n 0, 1) := by decide +kernel
theorem d_GC_clause_49 : decode prog_1_method_4_code 49 = .ok (.getfield 47, 3) := by decide +kernel
theorem d_GC_clause_52 : decode prog_1_method_4_code 52 = .ok (.getfield 82, 3) := by decide +kernel
theorem d_GC_clause_55 : decode prog_1_method_4_code 55 = .ok (.invokeinterface 85 1, 5) := by decide +kernel
theorem d_GC_clause_60 : decode prog_1_method_4_code 60 = .ok (.iconst 5, 1) := by decide +kernel
theorem d_GC_clause_61 : decode prog_1_method_4_code 61 = .ok (.if_icmp .lt (11), 3) := by decide +kernel
theorem d_GC_clause_64 : decode prog_1_method_4_code 64 = .ok (.new 91, 3) := by decide +kernel
theorem d_GC_clause_67 : decode prog_1_method_4_code 67 = .ok (.dup, 1) := by decide +kernel
theorem d_GC_clause_68 : decode prog_1_method_4_code 68 = .ok (.invokespecial 93, 3) := by decide +kernel
theorem d_GC_clause_71 : decode prog_1_method_4_code 71 = .ok (.athrow, 1) := by decide +kernel
theorem d_GC_clause_72 : decode prog_1_method_4_code 72 = .ok (.aload_n 0, 1) := by decide +kernel
theorem d_GC_clause_73 : decode prog_1_method_4_code 73 = .ok (.aload_n 1, 1) := by decide +kernel
theorem d_GC_clause_74 : decode prog_1_method_4_code 74 = .ok (.aload_n 0, 1) := by decide +kernel
theorem d_GC_clause_75 : decode prog_1_method_4_code 75 = .ok (.getfield 47, 3) := by decide +kernel
theorem d_GC_clause_78 : decode prog_1_method_4_code 78 = .ok (.invokevirtual 94, 3) := by decide +kernel
theorem d_GC_clause_81 : decode prog_1_method_4_code 81 = .ok (.ireturn, 1) := by decide +kernel
theorem d_Rd_read_0 : decode prog_9_method_2_code 0 = .ok (.aload_n 1, 1) := by decide +kernel
theorem d_Rd_read_1 : decode prog_9_method_2_code 1 = .ok (.iconst 0, 1) := by decide +kernel
theorem d_Rd_read_2 : decode prog_9_method_2_code 2 = .ok (.putfield 15, 3) := by decide +kernel
theorem d_Rd_read_5 : decode prog_9_method_2_code 5 = .ok (.aload_n 0, 1) := by decide +kernel
theorem d_Rd_read_6 : decode prog_9_method_2_code 6 = .ok (.iconst 0, 1) := by decide +kernel
theorem d_Rd_read_7 : decode prog_9_method_2_code 7 = .ok (.putfield 21, 3) := by decide +kernel
theorem d_Rd_read_10 : decode prog_9_method_2_code 10 = .ok (.aload_n 0, 1) := by decide +kernel
theorem d_Rd_read_11 : decode prog_9_method_2_code 11 = .ok (.iconst 0, 1) := by decide +kernel
theorem d_Rd_read_12 : decode prog_9_method_2_code 12 = .ok (.putfield 24, 3) := by decide +kernel
theorem d_Rd_read_15 : decode prog_9_method_2_code 15 = .ok (.aload_n 0, 1) := by decide +kernel
theorem d_Rd_read_16 : decode prog_9_method_2_code 16 = .ok (.iconst 0, 1) := by decide +kernel
theorem d_Rd_read_17 : decode prog_9_method_2_code 17 = .ok (.putfield 27, 3) := by decide +kernel
theorem d_Rd_read_20 : decode prog_9_method_2_code 20 = .ok (.aconst_null, 1) := by decide +kernel
theorem d_Rd_read_21 : decode prog_9_method_2_code 21 = .ok (.astore_n 2, 1) := by decide +kernel
theorem d_Rd_read_22 : decode prog_9_method_2_code 22 = .ok (.aload_n 1, 1) := by decide +kernel
theorem d_Rd_read_23 : decode prog_9_method_2_code 23 = .ok (.invokestatic 30, 3) := by decide +kernel
theorem d_Rd_read_26 : decode prog_9_method_2_code 26 = .ok (.istore_n 3, 1) := by decide +kernel
theorem d_Rd_read_27 : decode prog_9_method_2_code 27 = .ok (.iload_n 3, 1) := by decide +kernel
theorem d_Rd_read_28 : decode prog_9_method_2_code 28 = .ok (.ifCond .ne (37), 3) := by decide +kernel
theorem d_Rd_read_31 : decode prog_9_method_2_code 31 = .ok (.aload_n 1, 1) := by decide +kernel
theorem d_Rd_read_32 : decode prog_9_method_2_code 32 = .ok (.invokestatic 34, 3) := by decide +kernel
theorem d_Rd_read_35 : decode prog_9_method_2_code 35 = .ok (.astore_n 2, 1) := by decide +kernel
theorem d_Rd_read_36 : decode prog_9_method_2_code 36 = .ok (.aload_n 2, 1) := by decide +kernel
theorem d_Rd_read_37 : decode prog_9_method_2_code 37 = .ok (.ifnonnull (5), 3) := by decide +kernel
theorem d_Rd_read_40 : decode prog_9_method_2_code 40 = .ok (.aconst_null, 1) := by decide +kernel
theorem d_Rd_read_41 : decode prog_9_method_2_code 41 = .ok (.areturn, 1) := by decide +kernel
theorem d_Rd_read_42 : decode prog_9_method_2_code 42 = .ok (.aload_n 0, 1) := by decide +kernel
theorem d_Rd_read_43 : decode prog_9_method_2_code 43 = .ok (.aload_n 2, 1) := by decide +kernel
theorem d_Rd_read_44 : decode prog_9_method_2_code 44 = .ok (.invokevirtual 38, 3) := by decide +kernel
theorem d_Rd_read_47 : decode prog_9_method_2_code 47 = .ok (.putfield 24, 3) := by decide +kernel
theorem d_Rd_read_50 : decode prog_9_method_2_code 50 = .ok (.aload_n 1, 1) := by decide +kernel
theorem d_Rd_read_51 : decode prog_9_method_2_code 51 = .ok (.bipush (61), 2) := by decide +kernel
theorem d_Rd_read_53 : decode prog_9_method_2_code 53 = .ok (.invokevirtual 44, 3) := by decide +kernel
theorem d_Rd_read_56 : decode prog_9_method_2_code 56 = .ok (.ifCond .eq (7), 3) := by decide +kernel
theorem d_Rd_read_59 : decode prog_9_method_2_code 59 = .ok (.iconst 1, 1) := by decide +kernel
theorem d_Rd_read_60 : decode prog_9_method_2_code 60 = .ok (.goto (4), 3) := by decide +kernel
theorem d_Rd_read_63 : decode prog_9_method_2_code 63 = .ok (.iconst 0, 1) := by decide +kernel
theorem d_Rd_read_64 : decode prog_9_method_2_code 64 = .ok (.istore_n 3, 1) := by decide +kernel
theorem d_Rd_read_65 : decode prog_9_method_2_code 65 = .ok (.new 48, 3) := by decide +kernel
theorem d_Rd_read_68 : decode prog_9_method_2_code 68 = .ok (.dup, 1) := by decide +kernel
theorem d_Rd_read_69 : decode prog_9_method_2_code 69 = .ok (.invokespecial 50, 3) := by decide +kernel
theorem d_Rd_read_72 : decode prog_9_method_2_code 72 = .ok (.astore 4, 2) := by decide +kernel
theorem d_Rd_read_74 : decode prog_9_method_2_code 74 = .ok (.iload_n 3, 1) := by decide +kernel
theorem d_Rd_read_75 : decode prog_9_method_2_code 75 = .ok (.ifCond .eq (15), 3) := by decide +kernel
theorem d_Rd_read_78 : decode prog_9_method_2_code 78 = .ok (.aload_n 0, 1) := by decide +kernel
theorem d_Rd_read_79 : decode prog_9_method_2_code 79 = .ok (.aload_n 1, 1) := by decide +kernel
theorem d_Rd_read_80 : decode prog_9_method_2_code 80 = .ok (.aload 4, 2) := by decide +kernel
theorem d_Rd_read_82 : decode prog_9_method_2_code 82 = .ok (.invokevirtual 51, 3) := by decide +kernel
theorem d_Rd_read_85 : decode prog_9_method_2_code 85 = .ok (.ifCond .ne (5), 3) := by decide +kernel
theorem d_Rd_read_88 : decode prog_9_method_2_code 88 = .ok (.aconst_null, 1) := by decide +kernel
theorem d_Rd_read_89 : decode prog_9_method_2_code 89 = .ok (.areturn, 1) := by decide +kernel
theorem d_Rd_read_90 : decode prog_9_method_2_code 90 = .ok (.iload_n 3, 1) := by decide +kernel
theorem d_Rd_read_91 : decode prog_9_method_2_code 91 = .ok (.ifCond .eq (16), 3) := by decide +kernel
theorem d_Rd_read_94 : decode prog_9_method_2_code 94 = .ok (.aload_n 1, 1) := by decide +kernel
theorem d_Rd_read_95 : decode prog_9_method_2_code 95 = .ok (.bipush (42), 2) := by decide +kernel
theorem d_Rd_read_97 : decode prog_9_method_2_code 97 = .ok (.invokevirtual 44, 3) := by decide +kernel
theorem d_Rd_read_100 : decode prog_9_method_2_code 100 = .ok (.ifCond .eq (7), 3) := by decide +kernel
theorem d_Rd_read_103 : decode prog_9_method_2_code 103 = .ok (.iconst 1, 1) := by decide +kernel
theorem d_Rd_read_104 : decode prog_9_method_2_code 104 = .ok (.goto (4), 3) := by decide +kernel
theorem d_Rd_read_107 : decode prog_9_method_2_code 107 = .ok (.iconst 0, 1) := by decide +kernel
theorem d_Rd_read_108 : decode prog_9_method_2_code 108 = .ok (.istore 5, 2) := by decide +kernel
theorem d_Rd_read_110 : decode prog_9_method_2_code 110 = .ok (.aload_n 1, 1) := by decide +kernel
theorem d_Rd_read_111 : decode prog_9_method_2_code 111 = .ok (.invokevirtual 55, 3) := by decide +kernel
theorem d_Rd_read_114 : decode prog_9_method_2_code 114 = .ok (.ifCond .ne (17), 3) := by decide +kernel
theorem d_Rd_read_117 : decode prog_9_method_2_code 117 = .ok (.aload_n 0, 1) := by decide +kernel
theorem d_Rd_read_118 : decode prog_9_method_2_code 118 = .ok (.getfield 24, 3) := by decide +kernel
theorem d_Rd_read_121 : decode prog_9_method_2_code 121 = .ok (.aload_n 0, 1) := by decide +kernel
theorem d_Rd_read_122 : decode prog_9_method_2_code 122 = .ok (.getfield 27, 3) := by decide +kernel
theorem d_Rd_read_125 : decode prog_9_method_2_code 125 = .ok (.iconst (-1), 1) := by decide +kernel
theorem d_Rd_read_126 : decode prog_9_method_2_code 126 = .ok (.ixor, 1) := by decide +kernel
theorem d_Rd_read_127 : decode prog_9_method_2_code 127 = .ok (.iand, 1) := by decide +kernel
theorem d_Rd_read_128 : decode prog_9_method_2_code 128 = .ok (.ifCond .eq (5), 3) := by decide +kernel
theorem d_Rd_read_131 : decode prog_9_method_2_code 131 = .ok (.aconst_null, 1) := by decide +kernel
theorem d_Rd_read_132 : decode prog_9_method_2_code 132 = .ok (.areturn, 1) := by decide +kernel
theorem d_Rd_read_133 : decode prog_9_method_2_code 133 = .ok (.new 59, 3) := by decide +kernel
theorem d_Rd_read_136 : decode prog_9_method_2_code 136 = .ok (.dup, 1) := by decide +kernel
theorem d_Rd_read_137 : decode prog_9_method_2_code 137 = .ok (.iload_n 3, 1) := by decide +kernel
theorem d_Rd_read_138 : decode prog_9_method_2_code 138 = .ok (.iload 5, 2) := by decide +kernel
theorem d_Rd_read_140 : decode prog_9_method_2_code 140 = .ok (.aload_n 2, 1) := by decide +kernel
theorem d_Rd_read_141 : decode prog_9_method_2_code 141 = .ok (.aload 4, 2) := by decide +kernel
theorem d_Rd_read_143 : decode prog_9_method_2_code 143 = .ok (.aload_n 0, 1) := by decide +kernel
theorem d_Rd_read_144 : decode prog_9_method_2_code 144 = .ok (.getfield 9, 3) := by decide +kernel
theorem d_Rd_read_147 : decode prog_9_method_2_code 147 = .ok (.aload_n 0, 1) := by decide +kernel
theorem d_Rd_read_148 : decode prog_9_method_2_code 148 = .ok (.getfield 21, 3) := by decide +kernel
theorem d_Rd_read_151 : decode prog_9_method_2_code 151 = .ok (.invokestatic 61, 3) := by decide +kernel
theorem d_Rd_read_154 : decode prog_9_method_2_code 154 = .ok (.invokespecial 67, 3) := by decide +kernel
theorem d_Rd_read_157 : decode prog_9_method_2_code 157 = .ok (.areturn, 1) := by decide +kernel
theorem d_Rd_readKind_0 : decode prog_9_method_3_code 0 = .ok (.aload_n 0, 1) := by decide +kernel
theorem d_Rd_readKind_1 : decode prog_9_method_3_code 1 = .ok (.bipush (63), 2) := by decide +kernel
theorem d_Rd_readKind_3 : decode prog_9_method_3_code 3 = .ok (.invokevirtual 44, 3) := by decide +kernel
theorem d_Rd_readKind_6 : decode prog_9_method_3_code 6 = .ok (.ifCond .eq (5), 3) := by decide +kernel
theorem d_Rd_readKind_9 : decode prog_9_method_3_code 9 = .ok (.iconst 2, 1) := by decide +kernel
theorem d_Rd_readKind_10 : decode prog_9_method_3_code 10 = .ok (.ireturn, 1) := by decide +kernel
theorem d_Rd_readKind_11 : decode prog_9_method_3_code 11 = .ok (.aload_n 0, 1) := by decide +kernel
theorem d_Rd_readKind_12 : decode prog_9_method_3_code 12 = .ok (.bipush (33), 2) := by decide +kernel
theorem d_Rd_readKind_14 : decode prog_9_method_3_code 14 = .ok (.invokevirtual 44, 3) := by decide +kernel
theorem d_Rd_readKind_17 : decode prog_9_method_3_code 17 = .ok (.ifCond .eq (5), 3) := by decide +kernel
theorem d_Rd_readKind_20 : decode prog_9_method_3_code 20 = .ok (.iconst 3, 1) := by decide +kernel
theorem d_Rd_readKind_21 : decode prog_9_method_3_code 21 = .ok (.ireturn, 1) := by decide +kernel
theorem d_Rd_readKind_22 : decode prog_9_method_3_code 22 = .ok (.aload_n 0, 1) := by decide +kernel
theorem d_Rd_readKind_23 : decode prog_9_method_3_code 23 = .ok (.bipush (43), 2) := by decide +kernel
theorem d_Rd_readKind_25 : decode prog_9_method_3_code 25 = .ok (.invokevirtual 44, 3) := by decide +kernel
theorem d_Rd_readKind_28 : decode prog_9_method_3_code 28 = .ok (.ifCond .eq (5), 3) := by decide +kernel
theorem d_Rd_readKind_31 : decode prog_9_method_3_code 31 = .ok (.iconst 4, 1) := by decide +kernel
theorem d_Rd_readKind_32 : decode prog_9_method_3_code 32 = .ok (.ireturn, 1) := by decide +kernel
theorem d_Rd_readKind_33 : decode prog_9_method_3_code 33 = .ok (.aload_n 0, 1) := by decide +kernel
theorem d_Rd_readKind_34 : decode prog_9_method_3_code 34 = .ok (.bipush (45), 2) := by decide +kernel
theorem d_Rd_readKind_36 : decode prog_9_method_3_code 36 = .ok (.invokevirtual 44, 3) := by decide +kernel
theorem d_Rd_readKind_39 : decode prog_9_method_3_code 39 = .ok (.ifCond .eq (7), 3) := by decide +kernel
theorem d_Rd_readKind_42 : decode prog_9_method_3_code 42 = .ok (.iconst 5, 1) := by decide +kernel
theorem d_Rd_readKind_43 : decode prog_9_method_3_code 43 = .ok (.goto (4), 3) := by decide +kernel
theorem d_Rd_readKind_46 : decode prog_9_method_3_code 46 = .ok (.iconst 0, 1) := by decide +kernel
theorem d_Rd_readKind_47 : decode prog_9_method_3_code 47 = .ok (.ireturn, 1) := by decide +kernel
theorem d_Ln_takes_0 : decode prog_7_method_4_code 0 = .ok (.aload_n 0, 1) := by decide +kernel
theorem d_Ln_takes_1 : decode prog_7_method_4_code 1 = .ok (.invokevirtual 22, 3) := by decide +kernel
theorem d_Ln_takes_4 : decode prog_7_method_4_code 4 = .ok (.iload_n 1, 1) := by decide +kernel
theorem d_Ln_takes_5 : decode prog_7_method_4_code 5 = .ok (.if_icmp .eq (5), 3) := by decide +kernel
theorem d_Ln_takes_8 : decode prog_7_method_4_code 8 = .ok (.iconst 0, 1) := by decide +kernel
theorem d_Ln_takes_9 : decode prog_7_method_4_code 9 = .ok (.ireturn, 1) := by decide +kernel
theorem d_Ln_takes_10 : decode prog_7_method_4_code 10 = .ok (.aload_n 0, 1) := by decide +kernel
theorem d_Ln_takes_11 : decode prog_7_method_4_code 11 = .ok (.dup, 1) := by decide +kernel
theorem d_Ln_takes_12 : decode prog_7_method_4_code 12 = .ok (.getfield 19, 3) := by decide +kernel
theorem d_Ln_takes_15 : decode prog_7_method_4_code 15 = .ok (.iconst 1, 1) := by decide +kernel
theorem d_Ln_takes_16 : decode prog_7_method_4_code 16 = .ok (.iadd, 1) := by decide +kernel
theorem d_Ln_takes_17 : decode prog_7_method_4_code 17 = .ok (.putfield 19, 3) := by decide +kernel
theorem d_Ln_takes_20 : decode prog_7_method_4_code 20 = .ok (.iconst 1, 1) := by decide +kernel
theorem d_Ln_takes_21 : decode prog_7_method_4_code 21 = .ok (.ireturn, 1) := by decide +kernel
theorem d_Ln_sign_0 : decode prog_7_method_3_code 0 = .ok (.aload_n 0, 1) := by decide +kernel
theorem d_Ln_sign_1 : decode prog_7_method_3_code 1 = .ok (.getfield 19, 3) := by decide +kernel
theorem d_Ln_sign_4 : decode prog_7_method_3_code 4 = .ok (.istore_n 1, 1) := by decide +kernel
theorem d_Ln_sign_5 : decode prog_7_method_3_code 5 = .ok (.iload_n 1, 1) := by decide +kernel
theorem d_Ln_sign_6 : decode prog_7_method_3_code 6 = .ok (.aload_n 0, 1) := by decide +kernel
theorem d_Ln_sign_7 : decode prog_7_method_3_code 7 = .ok (.getfield 15, 3) := by decide +kernel
theorem d_Ln_sign_10 : decode prog_7_method_3_code 10 = .ok (.if_icmp .ge (32), 3) := by decide +kernel
theorem d_Ln_sign_13 : decode prog_7_method_3_code 13 = .ok (.aload_n 0, 1) := by decide +kernel
theorem d_Ln_sign_14 : decode prog_7_method_3_code 14 = .ok (.getfield 9, 3) := by decide +kernel
theorem d_Ln_sign_17 : decode prog_7_method_3_code 17 = .ok (.iload_n 1, 1) := by decide +kernel
theorem d_Ln_sign_18 : decode prog_7_method_3_code 18 = .ok (.caload, 1) := by decide +kernel
theorem d_Ln_sign_19 : decode prog_7_method_3_code 19 = .ok (.bipush (32), 2) := by decide +kernel
theorem d_Ln_sign_21 : decode prog_7_method_3_code 21 = .ok (.if_icmp .eq (15), 3) := by decide +kernel
theorem d_Ln_sign_24 : decode prog_7_method_3_code 24 = .ok (.aload_n 0, 1) := by decide +kernel
theorem d_Ln_sign_25 : decode prog_7_method_3_code 25 = .ok (.iload_n 1, 1) := by decide +kernel
theorem d_Ln_sign_26 : decode prog_7_method_3_code 26 = .ok (.putfield 19, 3) := by decide +kernel
theorem d_Ln_sign_29 : decode prog_7_method_3_code 29 = .ok (.aload_n 0, 1) := by decide +kernel
theorem d_Ln_sign_30 : decode prog_7_method_3_code 30 = .ok (.getfield 9, 3) := by decide +kernel
theorem d_Ln_sign_33 : decode prog_7_method_3_code 33 = .ok (.iload_n 1, 1) := by decide +kernel
theorem d_Ln_sign_34 : decode prog_7_method_3_code 34 = .ok (.caload, 1) := by decide +kernel
theorem d_Ln_sign_35 : decode prog_7_method_3_code 35 = .ok (.ireturn, 1) := by decide +kernel
theorem d_Ln_sign_36 : decode prog_7_method_3_code 36 = .ok (.iinc 1 (1), 3) := by decide +kernel
theorem d_Ln_sign_39 : decode prog_7_method_3_code 39 = .ok (.goto (-34), 3) := by decide +kernel
theorem d_Ln_sign_42 : decode prog_7_method_3_code 42 = .ok (.aload_n 0, 1) := by decide +kernel
theorem d_Ln_sign_43 : decode prog_7_method_3_code 43 = .ok (.aload_n 0, 1) := by decide +kernel
theorem d_Ln_sign_44 : decode prog_7_method_3_code 44 = .ok (.getfield 15, 3) := by decide +kernel
theorem d_Ln_sign_47 : decode prog_7_method_3_code 47 = .ok (.putfield 19, 3) := by decide +kernel
theorem d_Ln_sign_50 : decode prog_7_method_3_code 50 = .ok (.iconst 0, 1) := by decide +kernel
theorem d_Ln_sign_51 : decode prog_7_method_3_code 51 = .ok (.ireturn, 1) := by decide +kernel
theorem d_Rd_readAtom_0 : decode prog_9_method_4_code 0 = .ok (.aload_n 0, 1) := by decide +kernel
theorem d_Rd_readAtom_1 : decode prog_9_method_4_code 1 = .ok (.invokevirtual 55, 3) := by decide +kernel
theorem d_Rd_readAtom_4 : decode prog_9_method_4_code 4 = .ok (.istore_n 1, 1) := by decide +kernel
theorem d_Rd_readAtom_5 : decode prog_9_method_4_code 5 = .ok (.iload_n 1, 1) := by decide +kernel
theorem d_Rd_readAtom_6 : decode prog_9_method_4_code 6 = .ok (.invokestatic 70, 3) := by decide +kernel
theorem d_Rd_readAtom_9 : decode prog_9_method_4_code 9 = .ok (.ifCond .ne (5), 3) := by decide +kernel
theorem d_Rd_readAtom_12 : decode prog_9_method_4_code 12 = .ok (.aconst_null, 1) := by decide +kernel
theorem d_Rd_readAtom_13 : decode prog_9_method_4_code 13 = .ok (.areturn, 1) := by decide +kernel
theorem d_Rd_readAtom_14 : decode prog_9_method_4_code 14 = .ok (.aload_n 0, 1) := by decide +kernel
theorem d_Rd_readAtom_15 : decode prog_9_method_4_code 15 = .ok (.dup, 1) := by decide +kernel
theorem d_Rd_readAtom_16 : decode prog_9_method_4_code 16 = .ok (.getfield 15, 3) := by decide +kernel
theorem d_Rd_readAtom_19 : decode prog_9_method_4_code 19 = .ok (.iconst 1, 1) := by decide +kernel
theorem d_Rd_readAtom_20 : decode prog_9_method_4_code 20 = .ok (.iadd, 1) := by decide +kernel
theorem d_Rd_readAtom_21 : decode prog_9_method_4_code 21 = .ok (.putfield 15, 3) := by decide +kernel
theorem d_Rd_readAtom_24 : decode prog_9_method_4_code 24 = .ok (.iload_n 1, 1) := by decide +kernel
theorem d_Rd_readAtom_25 : decode prog_9_method_4_code 25 = .ok (.bipush (97), 2) := by decide +kernel
theorem d_Rd_readAtom_27 : decode prog_9_method_4_code 27 = .ok (.isub, 1) := by decide +kernel
theorem d_Rd_readAtom_28 : decode prog_9_method_4_code 28 = .ok (.istore_n 2, 1) := by decide +kernel
theorem d_Rd_readAtom_29 : decode prog_9_method_4_code 29 = .ok (.aload_n 0, 1) := by decide +kernel
theorem d_Rd_readAtom_30 : decode prog_9_method_4_code 30 = .ok (.bipush (40), 2) := by decide +kernel
theorem d_Rd_readAtom_32 : decode prog_9_method_4_code 32 = .ok (.invokevirtual 44, 3) := by decide +kernel
theorem d_Rd_readAtom_35 : decode prog_9_method_4_code 35 = .ok (.ifCond .ne (15), 3) := by decide +kernel
theorem d_Rd_readAtom_38 : decode prog_9_method_4_code 38 = .ok (.new 39, 3) := by decide +kernel
theorem d_Rd_readAtom_41 : decode prog_9_method_4_code 41 = .ok (.dup, 1) := by decide +kernel
theorem d_Rd_readAtom_42 : decode prog_9_method_4_code 42 = .ok (.iload_n 2, 1) := by decide +kernel
theorem d_Rd_readAtom_43 : decode prog_9_method_4_code 43 = .ok (.iconst 0, 1) := by decide +kernel
theorem d_Rd_readAtom_44 : decode prog_9_method_4_code 44 = .ok (.iconst 0, 1) := by decide +kernel
theorem d_Rd_readAtom_45 : decode prog_9_method_4_code 45 = .ok (.iconst 0, 1) := by decide +kernel
theorem d_Rd_readAtom_46 : decode prog_9_method_4_code 46 = .ok (.invokespecial 73, 3) := by decide +kernel
theorem d_Rd_readAtom_49 : decode prog_9_method_4_code 49 = .ok (.areturn, 1) := by decide +kernel
theorem d_Rd_readAtom_50 : decode prog_9_method_4_code 50 = .ok (.aload_n 0, 1) := by decide +kernel
theorem d_Rd_readAtom_51 : decode prog_9_method_4_code 51 = .ok (.invokestatic 76, 3) := by decide +kernel
theorem d_Rd_readAtom_54 : decode prog_9_method_4_code 54 = .ok (.istore_n 3, 1) := by decide +kernel
theorem d_Rd_readAtom_55 : decode prog_9_method_4_code 55 = .ok (.iload_n 3, 1) := by decide +kernel
theorem d_Rd_readAtom_56 : decode prog_9_method_4_code 56 = .ok (.ldc 79, 2) := by decide +kernel
theorem d_Rd_readAtom_58 : decode prog_9_method_4_code 58 = .ok (.if_icmp .ne (5), 3) := by decide +kernel
theorem d_Rd_readAtom_61 : decode prog_9_method_4_code 61 = .ok (.aconst_null, 1) := by decide +kernel
theorem d_Rd_readAtom_62 : decode prog_9_method_4_code 62 = .ok (.areturn, 1) := by decide +kernel
theorem d_Rd_readAtom_63 : decode prog_9_method_4_code 63 = .ok (.aload_n 0, 1) := by decide +kernel
theorem d_Rd_readAtom_64 : decode prog_9_method_4_code 64 = .ok (.bipush (41), 2) := by decide +kernel
theorem d_Rd_readAtom_66 : decode prog_9_method_4_code 66 = .ok (.invokevirtual 44, 3) := by decide +kernel
theorem d_Rd_readAtom_69 : decode prog_9_method_4_code 69 = .ok (.ifCond .eq (15), 3) := by decide +kernel
theorem d_Rd_readAtom_72 : decode prog_9_method_4_code 72 = .ok (.new 39, 3) := by decide +kernel
theorem d_Rd_readAtom_75 : decode prog_9_method_4_code 75 = .ok (.dup, 1) := by decide +kernel
theorem d_Rd_readAtom_76 : decode prog_9_method_4_code 76 = .ok (.iload_n 2, 1) := by decide +kernel
theorem d_Rd_readAtom_77 : decode prog_9_method_4_code 77 = .ok (.iconst 1, 1) := by decide +kernel
theorem d_Rd_readAtom_78 : decode prog_9_method_4_code 78 = .ok (.iload_n 3, 1) := by decide +kernel
theorem d_Rd_readAtom_79 : decode prog_9_method_4_code 79 = .ok (.iconst 0, 1) := by decide +kernel
theorem d_Rd_readAtom_80 : decode prog_9_method_4_code 80 = .ok (.invokespecial 73, 3) := by decide +kernel
theorem d_Rd_readAtom_83 : decode prog_9_method_4_code 83 = .ok (.areturn, 1) := by decide +kernel
theorem d_Rd_readAtom_84 : decode prog_9_method_4_code 84 = .ok (.aload_n 0, 1) := by decide +kernel
theorem d_Rd_readAtom_85 : decode prog_9_method_4_code 85 = .ok (.bipush (44), 2) := by decide +kernel
theorem d_Rd_readAtom_87 : decode prog_9_method_4_code 87 = .ok (.invokevirtual 44, 3) := by decide +kernel
theorem d_Rd_readAtom_90 : decode prog_9_method_4_code 90 = .ok (.ifCond .eq (10), 3) := by decide +kernel
theorem d_Rd_readAtom_93 : decode prog_9_method_4_code 93 = .ok (.aload_n 0, 1) := by decide +kernel
theorem d_Rd_readAtom_94 : decode prog_9_method_4_code 94 = .ok (.invokestatic 76, 3) := by decide +kernel
theorem d_Rd_readAtom_97 : decode prog_9_method_4_code 97 = .ok (.goto (5), 3) := by decide +kernel
theorem d_Rd_readAtom_100 : decode prog_9_method_4_code 100 = .ok (.ldc 79, 2) := by decide +kernel
theorem d_Rd_readAtom_102 : decode prog_9_method_4_code 102 = .ok (.istore 4, 2) := by decide +kernel
theorem d_Rd_readAtom_104 : decode prog_9_method_4_code 104 = .ok (.iload 4, 2) := by decide +kernel
theorem d_Rd_readAtom_106 : decode prog_9_method_4_code 106 = .ok (.ldc 79, 2) := by decide +kernel
theorem d_Rd_readAtom_108 : decode prog_9_method_4_code 108 = .ok (.if_icmp .eq (27), 3) := by decide +kernel
theorem d_Rd_readAtom_111 : decode prog_9_method_4_code 111 = .ok (.aload_n 0, 1) := by decide +kernel
theorem d_Rd_readAtom_112 : decode prog_9_method_4_code 112 = .ok (.bipush (41), 2) := by decide +kernel
theorem d_Rd_readAtom_114 : decode prog_9_method_4_code 114 = .ok (.invokevirtual 44, 3) := by decide +kernel
theorem d_Rd_readAtom_117 : decode prog_9_method_4_code 117 = .ok (.ifCond .eq (18), 3) := by decide +kernel
theorem d_Rd_readAtom_120 : decode prog_9_method_4_code 120 = .ok (.new 39, 3) := by decide +kernel
theorem d_Rd_readAtom_123 : decode prog_9_method_4_code 123 = .ok (.dup, 1) := by decide +kernel
theorem d_Rd_readAtom_124 : decode prog_9_method_4_code 124 = .ok (.iload_n 2, 1) := by decide +kernel
theorem d_Rd_readAtom_125 : decode prog_9_method_4_code 125 = .ok (.iconst 2, 1) := by decide +kernel
theorem d_Rd_readAtom_126 : decode prog_9_method_4_code 126 = .ok (.iload_n 3, 1) := by decide +kernel
theorem d_Rd_readAtom_127 : decode prog_9_method_4_code 127 = .ok (.iload 4, 2) := by decide +kernel
theorem d_Rd_readAtom_129 : decode prog_9_method_4_code 129 = .ok (.invokespecial 73, 3) := by decide +kernel
theorem d_Rd_readAtom_132 : decode prog_9_method_4_code 132 = .ok (.goto (4), 3) := by decide +kernel
theorem d_Rd_readAtom_135 : decode prog_9_method_4_code 135 = .ok (.aconst_null, 1) := by decide +kernel
theorem d_Rd_readAtom_136 : decode prog_9_method_4_code 136 = .ok (.areturn, 1) := by decide +kernel
theorem d_Rd_isName_0 : decode prog_9_method_12_code 0 = .ok (.iload_n 0, 1) := by decide +kernel
theorem d_Rd_isName_1 : decode prog_9_method_12_code 1 = .ok (.bipush (97), 2) := by decide +kernel
theorem d_Rd_isName_3 : decode prog_9_method_12_code 3 = .ok (.if_icmp .lt (13), 3) := by decide +kernel
theorem d_Rd_isName_6 : decode prog_9_method_12_code 6 = .ok (.iload_n 0, 1) := by decide +kernel
theorem d_Rd_isName_7 : decode prog_9_method_12_code 7 = .ok (.bipush (122), 2) := by decide +kernel
theorem d_Rd_isName_9 : decode prog_9_method_12_code 9 = .ok (.if_icmp .gt (7), 3) := by decide +kernel
theorem d_Rd_isName_12 : decode prog_9_method_12_code 12 = .ok (.iconst 1, 1) := by decide +kernel
theorem d_Rd_isName_13 : decode prog_9_method_12_code 13 = .ok (.goto (4), 3) := by decide +kernel
theorem d_Rd_isName_16 : decode prog_9_method_12_code 16 = .ok (.iconst 0, 1) := by decide +kernel
theorem d_Rd_isName_17 : decode prog_9_method_12_code 17 = .ok (.ireturn, 1) := by decide +kernel
theorem d_At_init_0 : decode prog_2_method_1_code 0 = .ok (.aload_n 0, 1) := by decide +kernel
theorem d_At_init_1 : decode prog_2_method_1_code 1 = .ok (.invokespecial 3, 3) := by decide +kernel
theorem d_At_init_4 : decode prog_2_method_1_code 4 = .ok (.aload_n 0, 1) := by decide +kernel
theorem d_At_init_5 : decode prog_2_method_1_code 5 = .ok (.iload_n 1, 1) := by decide +kernel
theorem d_At_init_6 : decode prog_2_method_1_code 6 = .ok (.putfield 9, 3) := by decide +kernel
theorem d_At_init_9 : decode prog_2_method_1_code 9 = .ok (.aload_n 0, 1) := by decide +kernel
theorem d_At_init_10 : decode prog_2_method_1_code 10 = .ok (.iload_n 2, 1) := by decide +kernel
theorem d_At_init_11 : decode prog_2_method_1_code 11 = .ok (.putfield 15, 3) := by decide +kernel
theorem d_At_init_14 : decode prog_2_method_1_code 14 = .ok (.aload_n 0, 1) := by decide +kernel
theorem d_At_init_15 : decode prog_2_method_1_code 15 = .ok (.iload_n 3, 1) := by decide +kernel
theorem d_At_init_16 : decode prog_2_method_1_code 16 = .ok (.putfield 18, 3) := by decide +kernel
theorem d_At_init_19 : decode prog_2_method_1_code 19 = .ok (.aload_n 0, 1) := by decide +kernel
theorem d_At_init_20 : decode prog_2_method_1_code 20 = .ok (.iload 4, 2) := by decide +kernel
theorem d_At_init_22 : decode prog_2_method_1_code 22 = .ok (.putfield 21, 3) := by decide +kernel
theorem d_At_init_25 : decode prog_2_method_1_code 25 = .ok (.return_, 1) := by decide +kernel
theorem d_Rd_readTerm_0 : decode prog_9_method_5_code 0 = .ok (.aload_n 0, 1) := by decide +kernel
theorem d_Rd_readTerm_1 : decode prog_9_method_5_code 1 = .ok (.invokevirtual 55, 3) := by decide +kernel
theorem d_Rd_readTerm_4 : decode prog_9_method_5_code 4 = .ok (.istore_n 1, 1) := by decide +kernel
theorem d_Rd_readTerm_5 : decode prog_9_method_5_code 5 = .ok (.iload_n 1, 1) := by decide +kernel
theorem d_Rd_readTerm_6 : decode prog_9_method_5_code 6 = .ok (.invokestatic 80, 3) := by decide +kernel
theorem d_Rd_readTerm_9 : decode prog_9_method_5_code 9 = .ok (.ifCond .eq (21), 3) := by decide +kernel
theorem d_Rd_readTerm_12 : decode prog_9_method_5_code 12 = .ok (.aload_n 0, 1) := by decide +kernel
theorem d_Rd_readTerm_13 : decode prog_9_method_5_code 13 = .ok (.dup, 1) := by decide +kernel
theorem d_Rd_readTerm_14 : decode prog_9_method_5_code 14 = .ok (.getfield 15, 3) := by decide +kernel
theorem d_Rd_readTerm_17 : decode prog_9_method_5_code 17 = .ok (.iconst 1, 1) := by decide +kernel
theorem d_Rd_readTerm_18 : decode prog_9_method_5_code 18 = .ok (.iadd, 1) := by decide +kernel
theorem d_Rd_readTerm_19 : decode prog_9_method_5_code 19 = .ok (.putfield 15, 3) := by decide +kernel
theorem d_Rd_readTerm_22 : decode prog_9_method_5_code 22 = .ok (.ldc 83, 2) := by decide +kernel
theorem d_Rd_readTerm_24 : decode prog_9_method_5_code 24 = .ok (.iload_n 1, 1) := by decide +kernel
theorem d_Rd_readTerm_25 : decode prog_9_method_5_code 25 = .ok (.bipush (65), 2) := by decide +kernel
theorem d_Rd_readTerm_27 : decode prog_9_method_5_code 27 = .ok (.isub, 1) := by decide +kernel
theorem d_Rd_readTerm_28 : decode prog_9_method_5_code 28 = .ok (.iadd, 1) := by decide +kernel
theorem d_Rd_readTerm_29 : decode prog_9_method_5_code 29 = .ok (.ireturn, 1) := by decide +kernel
theorem d_Rd_readTerm_30 : decode prog_9_method_5_code 30 = .ok (.aload_n 0, 1) := by decide +kernel
theorem d_Rd_readTerm_31 : decode prog_9_method_5_code 31 = .ok (.bipush (45), 2) := by decide +kernel
theorem d_Rd_readTerm_33 : decode prog_9_method_5_code 33 = .ok (.invokevirtual 44, 3) := by decide +kernel
theorem d_Rd_readTerm_36 : decode prog_9_method_5_code 36 = .ok (.istore_n 2, 1) := by decide +kernel
theorem d_Rd_readTerm_37 : decode prog_9_method_5_code 37 = .ok (.aload_n 0, 1) := by decide +kernel
theorem d_Rd_readTerm_38 : decode prog_9_method_5_code 38 = .ok (.invokevirtual 84, 3) := by decide +kernel
theorem d_Rd_readTerm_41 : decode prog_9_method_5_code 41 = .ok (.istore_n 3, 1) := by decide +kernel
theorem d_Rd_readTerm_42 : decode prog_9_method_5_code 42 = .ok (.iload_n 3, 1) := by decide +kernel
theorem d_Rd_readTerm_43 : decode prog_9_method_5_code 43 = .ok (.ifCond .ge (6), 3) := by decide +kernel
theorem d_Rd_readTerm_46 : decode prog_9_method_5_code 46 = .ok (.ldc 79, 2) := by decide +kernel
theorem d_Rd_readTerm_48 : decode prog_9_method_5_code 48 = .ok (.ireturn, 1) := by decide +kernel
theorem d_Rd_readTerm_49 : decode prog_9_method_5_code 49 = .ok (.iload_n 2, 1) := by decide +kernel
theorem d_Rd_readTerm_50 : decode prog_9_method_5_code 50 = .ok (.ifCond .eq (8), 3) := by decide +kernel
theorem d_Rd_readTerm_53 : decode prog_9_method_5_code 53 = .ok (.iload_n 3, 1) := by decide +kernel
theorem d_Rd_readTerm_54 : decode prog_9_method_5_code 54 = .ok (.ineg, 1) := by decide +kernel
theorem d_Rd_readTerm_55 : decode prog_9_method_5_code 55 = .ok (.goto (4), 3) := by decide +kernel
theorem d_Rd_readTerm_58 : decode prog_9_method_5_code 58 = .ok (.iload_n 3, 1) := by decide +kernel
theorem d_Rd_readTerm_59 : decode prog_9_method_5_code 59 = .ok (.ireturn, 1) := by decide +kernel
theorem d_Rd_isVariable_0 : decode prog_9_method_13_code 0 = .ok (.iload_n 0, 1) := by decide +kernel
theorem d_Rd_isVariable_1 : decode prog_9_method_13_code 1 = .ok (.bipush (65), 2) := by decide +kernel
theorem d_Rd_isVariable_3 : decode prog_9_method_13_code 3 = .ok (.if_icmp .lt (13), 3) := by decide +kernel
theorem d_Rd_isVariable_6 : decode prog_9_method_13_code 6 = .ok (.iload_n 0, 1) := by decide +kernel
theorem d_Rd_isVariable_7 : decode prog_9_method_13_code 7 = .ok (.bipush (73), 2) := by decide +kernel
theorem d_Rd_isVariable_9 : decode prog_9_method_13_code 9 = .ok (.if_icmp .ge (7), 3) := by decide +kernel
theorem d_Rd_isVariable_12 : decode prog_9_method_13_code 12 = .ok (.iconst 1, 1) := by decide +kernel
theorem d_Rd_isVariable_13 : decode prog_9_method_13_code 13 = .ok (.goto (4), 3) := by decide +kernel
theorem d_Rd_isVariable_16 : decode prog_9_method_13_code 16 = .ok (.iconst 0, 1) := by decide +kernel
theorem d_Rd_isVariable_17 : decode prog_9_method_13_code 17 = .ok (.ireturn, 1) := by decide +kernel
