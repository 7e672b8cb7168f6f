theorem d_GC_authorize_0 : decode prog_1_method_12_code 0 = .ok (.aload_n 0, 1) := by decide +kernel
theorem d_GC_authorize_1 : decode prog_1_method_12_code 1 = .ok (.iload_n 1, 1) := by decide +kernel
theorem d_GC_authorize_2 : decode prog_1_method_12_code 2 = .ok (.invokevirtual 112, 3) := by decide +kernel
theorem d_GC_authorize_5 : decode prog_1_method_12_code 5 = .ok (.ifCond .ne (11), 3) := by decide +kernel
theorem d_GC_authorize_8 : decode prog_1_method_12_code 8 = .ok (.new 115, 3) := by decide +kernel
theorem d_GC_authorize_11 : decode prog_1_method_12_code 11 = .ok (.dup, 1) := by decide +kernel
theorem d_GC_authorize_12 : decode prog_1_method_12_code 12 = .ok (.invokespecial 117, 3) := by decide +kernel
theorem d_GC_authorize_15 : decode prog_1_method_12_code 15 = .ok (.athrow, 1) := by decide +kernel
theorem d_GC_authorize_16 : decode prog_1_method_12_code 16 = .ok (.iload_n 2, 1) := by decide +kernel
theorem d_GC_authorize_17 : decode prog_1_method_12_code 17 = .ok (.invokestatic 101, 3) := by decide +kernel
theorem d_GC_authorize_20 : decode prog_1_method_12_code 20 = .ok (.ifCond .ne (11), 3) := by decide +kernel
theorem d_GC_authorize_23 : decode prog_1_method_12_code 23 = .ok (.new 71, 3) := by decide +kernel
theorem d_GC_authorize_26 : decode prog_1_method_12_code 26 = .ok (.dup, 1) := by decide +kernel
theorem d_GC_authorize_27 : decode prog_1_method_12_code 27 = .ok (.invokespecial 73, 3) := by decide +kernel
theorem d_GC_authorize_30 : decode prog_1_method_12_code 30 = .ok (.athrow, 1) := by decide +kernel
theorem d_GC_authorize_31 : decode prog_1_method_12_code 31 = .ok (.aload_n 0, 1) := by decide +kernel
theorem d_GC_authorize_32 : decode prog_1_method_12_code 32 = .ok (.getfield 44, 3) := by decide +kernel
theorem d_GC_authorize_35 : decode prog_1_method_12_code 35 = .ok (.iload_n 1, 1) := by decide +kernel
theorem d_GC_authorize_36 : decode prog_1_method_12_code 36 = .ok (.invokeinterface 118 2, 5) := by decide +kernel
theorem d_GC_authorize_41 : decode prog_1_method_12_code 41 = .ok (.checkcast 105, 3) := by decide +kernel
theorem d_GC_authorize_44 : decode prog_1_method_12_code 44 = .ok (.astore_n 3, 1) := by decide +kernel
theorem d_GC_authorize_45 : decode prog_1_method_12_code 45 = .ok (.aload_n 0, 1) := by decide +kernel
theorem d_GC_authorize_46 : decode prog_1_method_12_code 46 = .ok (.getfield 26, 3) := by decide +kernel
theorem d_GC_authorize_49 : decode prog_1_method_12_code 49 = .ok (.aload_n 0, 1) := by decide +kernel
theorem d_GC_authorize_50 : decode prog_1_method_12_code 50 = .ok (.getfield 54, 3) := by decide +kernel
theorem d_GC_authorize_53 : decode prog_1_method_12_code 53 = .ok (.invokevirtual 179, 3) := by decide +kernel
theorem d_GC_authorize_56 : decode prog_1_method_12_code 56 = .ok (.aload_n 3, 1) := by decide +kernel
theorem d_GC_authorize_57 : decode prog_1_method_12_code 57 = .ok (.iload_n 2, 1) := by decide +kernel
theorem d_GC_authorize_58 : decode prog_1_method_12_code 58 = .ok (.invokevirtual 182, 3) := by decide +kernel
theorem d_GC_authorize_61 : decode prog_1_method_12_code 61 = .ok (.ifCond .ne (12), 3) := by decide +kernel
theorem d_GC_authorize_64 : decode prog_1_method_12_code 64 = .ok (.aload_n 0, 1) := by decide +kernel
theorem d_GC_authorize_65 : decode prog_1_method_12_code 65 = .ok (.getfield 26, 3) := by decide +kernel
theorem d_GC_authorize_68 : decode prog_1_method_12_code 68 = .ok (.iconst (-1), 1) := by decide +kernel
theorem d_GC_authorize_69 : decode prog_1_method_12_code 69 = .ok (.invokevirtual 185, 3) := by decide +kernel
theorem d_GC_authorize_72 : decode prog_1_method_12_code 72 = .ok (.ireturn, 1) := by decide +kernel
theorem d_GC_authorize_73 : decode prog_1_method_12_code 73 = .ok (.aload_n 0, 1) := by decide +kernel
theorem d_GC_authorize_74 : decode prog_1_method_12_code 74 = .ok (.aload_n 3, 1) := by decide +kernel
theorem d_GC_authorize_75 : decode prog_1_method_12_code 75 = .ok (.invokevirtual 189, 3) := by decide +kernel
theorem d_GC_authorize_78 : decode prog_1_method_12_code 78 = .ok (.aload_n 0, 1) := by decide +kernel
theorem d_GC_authorize_79 : decode prog_1_method_12_code 79 = .ok (.getfield 26, 3) := by decide +kernel
theorem d_GC_authorize_82 : decode prog_1_method_12_code 82 = .ok (.aload_n 0, 1) := by decide +kernel
theorem d_GC_authorize_83 : decode prog_1_method_12_code 83 = .ok (.getfield 57, 3) := by decide +kernel
theorem d_GC_authorize_86 : decode prog_1_method_12_code 86 = .ok (.invokevirtual 193, 3) := by decide +kernel
theorem d_GC_authorize_89 : decode prog_1_method_12_code 89 = .ok (.ifCond .ne (13), 3) := by decide +kernel
theorem d_GC_authorize_92 : decode prog_1_method_12_code 92 = .ok (.aload_n 0, 1) := by decide +kernel
theorem d_GC_authorize_93 : decode prog_1_method_12_code 93 = .ok (.getfield 26, 3) := by decide +kernel
theorem d_GC_authorize_96 : decode prog_1_method_12_code 96 = .ok (.bipush (-2), 2) := by decide +kernel
theorem d_GC_authorize_98 : decode prog_1_method_12_code 98 = .ok (.invokevirtual 185, 3) := by decide +kernel
theorem d_GC_authorize_101 : decode prog_1_method_12_code 101 = .ok (.ireturn, 1) := by decide +kernel
theorem d_GC_authorize_102 : decode prog_1_method_12_code 102 = .ok (.aload_n 0, 1) := by decide +kernel
theorem d_GC_authorize_103 : decode prog_1_method_12_code 103 = .ok (.getfield 26, 3) := by decide +kernel
theorem d_GC_authorize_106 : decode prog_1_method_12_code 106 = .ok (.aload_n 0, 1) := by decide +kernel
theorem d_GC_authorize_107 : decode prog_1_method_12_code 107 = .ok (.getfield 26, 3) := by decide +kernel
theorem d_GC_authorize_110 : decode prog_1_method_12_code 110 = .ok (.invokevirtual 196, 3) := by decide +kernel
theorem d_GC_authorize_113 : decode prog_1_method_12_code 113 = .ok (.invokevirtual 185, 3) := by decide +kernel
theorem d_GC_authorize_116 : decode prog_1_method_12_code 116 = .ok (.ireturn, 1) := by decide +kernel
theorem d_Jg_begin_0 : decode prog_6_method_2_code 0 = .ok (.aload_n 0, 1) := by decide +kernel
theorem d_Jg_begin_1 : decode prog_6_method_2_code 1 = .ok (.getfield 14, 3) := by decide +kernel
theorem d_Jg_begin_4 : decode prog_6_method_2_code 4 = .ok (.iload_n 1, 1) := by decide +kernel
theorem d_Jg_begin_5 : decode prog_6_method_2_code 5 = .ok (.invokevirtual 36, 3) := by decide +kernel
theorem d_Jg_begin_8 : decode prog_6_method_2_code 8 = .ok (.aload_n 0, 1) := by decide +kernel
theorem d_Jg_begin_9 : decode prog_6_method_2_code 9 = .ok (.iconst 0, 1) := by decide +kernel
theorem d_Jg_begin_10 : decode prog_6_method_2_code 10 = .ok (.putfield 40, 3) := by decide +kernel
theorem d_Jg_begin_13 : decode prog_6_method_2_code 13 = .ok (.aload_n 0, 1) := by decide +kernel
theorem d_Jg_begin_14 : decode prog_6_method_2_code 14 = .ok (.iconst 0, 1) := by decide +kernel
theorem d_Jg_begin_15 : decode prog_6_method_2_code 15 = .ok (.putfield 44, 3) := by decide +kernel
theorem d_Jg_begin_18 : decode prog_6_method_2_code 18 = .ok (.return_, 1) := by decide +kernel
theorem d_Fa_begin_0 : decode prog_5_method_2_code 0 = .ok (.aload_n 0, 1) := by decide +kernel
theorem d_Fa_begin_1 : decode prog_5_method_2_code 1 = .ok (.iload_n 1, 1) := by decide +kernel
theorem d_Fa_begin_2 : decode prog_5_method_2_code 2 = .ok (.putfield 16, 3) := by decide +kernel
theorem d_Fa_begin_5 : decode prog_5_method_2_code 5 = .ok (.aload_n 0, 1) := by decide +kernel
theorem d_Fa_begin_6 : decode prog_5_method_2_code 6 = .ok (.iconst 0, 1) := by decide +kernel
theorem d_Fa_begin_7 : decode prog_5_method_2_code 7 = .ok (.putfield 20, 3) := by decide +kernel
theorem d_Fa_begin_10 : decode prog_5_method_2_code 10 = .ok (.aload_n 0, 1) := by decide +kernel
theorem d_Fa_begin_11 : decode prog_5_method_2_code 11 = .ok (.iconst 0, 1) := by decide +kernel
theorem d_Fa_begin_12 : decode prog_5_method_2_code 12 = .ok (.putfield 23, 3) := by decide +kernel
theorem d_Fa_begin_15 : decode prog_5_method_2_code 15 = .ok (.return_, 1) := by decide +kernel
theorem d_Tk_isRightFor_0 : decode prog_10_method_9_code 0 = .ok (.iload_n 1, 1) := by decide +kernel
theorem d_Tk_isRightFor_1 : decode prog_10_method_9_code 1 = .ok (.istore_n 2, 1) := by decide +kernel
theorem d_Tk_isRightFor_2 : decode prog_10_method_9_code 2 = .ok (.iconst 0, 1) := by decide +kernel
theorem d_Tk_isRightFor_3 : decode prog_10_method_9_code 3 = .ok (.istore_n 3, 1) := by decide +kernel
theorem d_Tk_isRightFor_4 : decode prog_10_method_9_code 4 = .ok (.iload_n 3, 1) := by decide +kernel
theorem d_Tk_isRightFor_5 : decode prog_10_method_9_code 5 = .ok (.aload_n 0, 1) := by decide +kernel
theorem d_Tk_isRightFor_6 : decode prog_10_method_9_code 6 = .ok (.getfield 10, 3) := by decide +kernel
theorem d_Tk_isRightFor_9 : decode prog_10_method_9_code 9 = .ok (.invokeinterface 17 1, 5) := by decide +kernel
theorem d_Tk_isRightFor_14 : decode prog_10_method_9_code 14 = .ok (.if_icmp .ge (41), 3) := by decide +kernel
theorem d_Tk_isRightFor_17 : decode prog_10_method_9_code 17 = .ok (.aload_n 0, 1) := by decide +kernel
theorem d_Tk_isRightFor_18 : decode prog_10_method_9_code 18 = .ok (.getfield 10, 3) := by decide +kernel
theorem d_Tk_isRightFor_21 : decode prog_10_method_9_code 21 = .ok (.iload_n 3, 1) := by decide +kernel
theorem d_Tk_isRightFor_22 : decode prog_10_method_9_code 22 = .ok (.invokeinterface 23 2, 5) := by decide +kernel
theorem d_Tk_isRightFor_27 : decode prog_10_method_9_code 27 = .ok (.checkcast 27, 3) := by decide +kernel
theorem d_Tk_isRightFor_30 : decode prog_10_method_9_code 30 = .ok (.astore 4, 2) := by decide +kernel
theorem d_Tk_isRightFor_32 : decode prog_10_method_9_code 32 = .ok (.aload 4, 2) := by decide +kernel
theorem d_Tk_isRightFor_34 : decode prog_10_method_9_code 34 = .ok (.iload_n 2, 1) := by decide +kernel
theorem d_Tk_isRightFor_35 : decode prog_10_method_9_code 35 = .ok (.invokevirtual 73, 3) := by decide +kernel
theorem d_Tk_isRightFor_38 : decode prog_10_method_9_code 38 = .ok (.ifCond .ne (5), 3) := by decide +kernel
theorem d_Tk_isRightFor_41 : decode prog_10_method_9_code 41 = .ok (.iconst 0, 1) := by decide +kernel
theorem d_Tk_isRightFor_42 : decode prog_10_method_9_code 42 = .ok (.ireturn, 1) := by decide +kernel
theorem d_Tk_isRightFor_43 : decode prog_10_method_9_code 43 = .ok (.aload 4, 2) := by decide +kernel
theorem d_Tk_isRightFor_45 : decode prog_10_method_9_code 45 = .ok (.getfield 66, 3) := by decide +kernel
theorem d_Tk_isRightFor_48 : decode prog_10_method_9_code 48 = .ok (.istore_n 2, 1) := by decide +kernel
theorem d_Tk_isRightFor_49 : decode prog_10_method_9_code 49 = .ok (.iinc 3 (1), 3) := by decide +kernel
theorem d_Tk_isRightFor_52 : decode prog_10_method_9_code 52 = .ok (.goto (-48), 3) := by decide +kernel
theorem d_Tk_isRightFor_55 : decode prog_10_method_9_code 55 = .ok (.aload_n 0, 1) := by decide +kernel
theorem d_Tk_isRightFor_56 : decode prog_10_method_9_code 56 = .ok (.getfield 37, 3) := by decide +kernel
theorem d_Tk_isRightFor_59 : decode prog_10_method_9_code 59 = .ok (.iload_n 2, 1) := by decide +kernel
theorem d_Tk_isRightFor_60 : decode prog_10_method_9_code 60 = .ok (.if_icmp .ne (30), 3) := by decide +kernel
theorem d_Tk_isRightFor_63 : decode prog_10_method_9_code 63 = .ok (.aload_n 0, 1) := by decide +kernel
theorem d_Tk_isRightFor_64 : decode prog_10_method_9_code 64 = .ok (.getfield 33, 3) := by decide +kernel
theorem d_Tk_isRightFor_67 : decode prog_10_method_9_code 67 = .ok (.ifCond .eq (19), 3) := by decide +kernel
theorem d_Tk_isRightFor_70 : decode prog_10_method_9_code 70 = .ok (.aload_n 0, 1) := by decide +kernel
theorem d_Tk_isRightFor_71 : decode prog_10_method_9_code 71 = .ok (.getfield 41, 3) := by decide +kernel
theorem d_Tk_isRightFor_74 : decode prog_10_method_9_code 74 = .ok (.aload_n 0, 1) := by decide +kernel
theorem d_Tk_isRightFor_75 : decode prog_10_method_9_code 75 = .ok (.getfield 10, 3) := by decide +kernel
theorem d_Tk_isRightFor_78 : decode prog_10_method_9_code 78 = .ok (.invokeinterface 17 1, 5) := by decide +kernel
theorem d_Tk_isRightFor_83 : decode prog_10_method_9_code 83 = .ok (.if_icmp .ne (7), 3) := by decide +kernel
theorem d_Tk_isRightFor_86 : decode prog_10_method_9_code 86 = .ok (.iconst 1, 1) := by decide +kernel
theorem d_Tk_isRightFor_87 : decode prog_10_method_9_code 87 = .ok (.goto (4), 3) := by decide +kernel
theorem d_Tk_isRightFor_90 : decode prog_10_method_9_code 90 = .ok (.iconst 0, 1) := by decide +kernel
theorem d_Tk_isRightFor_91 : decode prog_10_method_9_code 91 = .ok (.ireturn, 1) := by decide +kernel
theorem d_Lk_isSignedBy_0 : decode prog_8_method_2_code 0 = .ok (.aload_n 0, 1) := by decide +kernel
theorem d_Lk_isSignedBy_1 : decode prog_8_method_2_code 1 = .ok (.getfield 16, 3) := by decide +kernel
theorem d_Lk_isSignedBy_4 : decode prog_8_method_2_code 4 = .ok (.iload_n 1, 1) := by decide +kernel
theorem d_Lk_isSignedBy_5 : decode prog_8_method_2_code 5 = .ok (.if_icmp .ne (29), 3) := by decide +kernel
theorem d_Lk_isSignedBy_8 : decode prog_8_method_2_code 8 = .ok (.aload_n 0, 1) := by decide +kernel
theorem d_Lk_isSignedBy_9 : decode prog_8_method_2_code 9 = .ok (.getfield 19, 3) := by decide +kernel
theorem d_Lk_isSignedBy_12 : decode prog_8_method_2_code 12 = .ok (.aload_n 0, 1) := by decide +kernel
theorem d_Lk_isSignedBy_13 : decode prog_8_method_2_code 13 = .ok (.getfield 7, 3) := by decide +kernel
theorem d_Lk_isSignedBy_16 : decode prog_8_method_2_code 16 = .ok (.if_icmp .ne (18), 3) := by decide +kernel
theorem d_Lk_isSignedBy_19 : decode prog_8_method_2_code 19 = .ok (.aload_n 0, 1) := by decide +kernel
theorem d_Lk_isSignedBy_20 : decode prog_8_method_2_code 20 = .ok (.getfield 22, 3) := by decide +kernel
theorem d_Lk_isSignedBy_23 : decode prog_8_method_2_code 23 = .ok (.aload_n 0, 1) := by decide +kernel
theorem d_Lk_isSignedBy_24 : decode prog_8_method_2_code 24 = .ok (.getfield 13, 3) := by decide +kernel
theorem d_Lk_isSignedBy_27 : decode prog_8_method_2_code 27 = .ok (.if_icmp .ne (7), 3) := by decide +kernel
theorem d_Lk_isSignedBy_30 : decode prog_8_method_2_code 30 = .ok (.iconst 1, 1) := by decide +kernel
theorem d_Lk_isSignedBy_31 : decode prog_8_method_2_code 31 = .ok (.goto (4), 3) := by decide +kernel
theorem d_Lk_isSignedBy_34 : decode prog_8_method_2_code 34 = .ok (.iconst 0, 1) := by decide +kernel
theorem d_Lk_isSignedBy_35 : decode prog_8_method_2_code 35 = .ok (.ireturn, 1) := by decide +kernel
theorem d_Jg_end_0 : decode prog_6_method_3_code 0 = .ok (.iload_n 1, 1) := by decide +kernel
theorem d_Jg_end_1 : decode prog_6_method_3_code 1 = .ok (.iconst (-1), 1) := by decide +kernel
theorem d_Jg_end_2 : decode prog_6_method_3_code 2 = .ok (.if_icmp .eq (9), 3) := by decide +kernel
theorem d_Jg_end_5 : decode prog_6_method_3_code 5 = .ok (.iload_n 1, 1) := by decide +kernel
theorem d_Jg_end_6 : decode prog_6_method_3_code 6 = .ok (.bipush (-2), 2) := by decide +kernel
theorem d_Jg_end_8 : decode prog_6_method_3_code 8 = .ok (.if_icmp .ne (11), 3) := by decide +kernel
theorem d_Jg_end_11 : decode prog_6_method_3_code 11 = .ok (.aload_n 0, 1) := by decide +kernel
theorem d_Jg_end_12 : decode prog_6_method_3_code 12 = .ok (.getfield 14, 3) := by decide +kernel
theorem d_Jg_end_15 : decode prog_6_method_3_code 15 = .ok (.iconst 0, 1) := by decide +kernel
theorem d_Jg_end_16 : decode prog_6_method_3_code 16 = .ok (.putfield 47, 3) := by decide +kernel
theorem d_Jg_end_19 : decode prog_6_method_3_code 19 = .ok (.iload_n 1, 1) := by decide +kernel
theorem d_Jg_end_20 : decode prog_6_method_3_code 20 = .ok (.bipush (-4), 2) := by decide +kernel
theorem d_Jg_end_22 : decode prog_6_method_3_code 22 = .ok (.if_icmp .eq (8), 3) := by decide +kernel
theorem d_Jg_end_25 : decode prog_6_method_3_code 25 = .ok (.aload_n 0, 1) := by decide +kernel
theorem d_Jg_end_26 : decode prog_6_method_3_code 26 = .ok (.iconst 0, 1) := by decide +kernel
theorem d_Jg_end_27 : decode prog_6_method_3_code 27 = .ok (.putfield 44, 3) := by decide +kernel
theorem d_Jg_end_30 : decode prog_6_method_3_code 30 = .ok (.aload_n 0, 1) := by decide +kernel
theorem d_Jg_end_31 : decode prog_6_method_3_code 31 = .ok (.getfield 14, 3) := by decide +kernel
theorem d_Jg_end_34 : decode prog_6_method_3_code 34 = .ok (.invokevirtual 50, 3) := by decide +kernel
theorem d_Jg_end_37 : decode prog_6_method_3_code 37 = .ok (.aload_n 0, 1) := by decide +kernel
theorem d_Jg_end_38 : decode prog_6_method_3_code 38 = .ok (.iload_n 1, 1) := by decide +kernel
theorem d_Jg_end_39 : decode prog_6_method_3_code 39 = .ok (.putfield 53, 3) := by decide +kernel
theorem d_Jg_end_42 : decode prog_6_method_3_code 42 = .ok (.iload_n 1, 1) := by decide +kernel
theorem d_Jg_end_43 : decode prog_6_method_3_code 43 = .ok (.ireturn, 1) := by decide +kernel
theorem d_Fa_sort_0 : decode prog_5_method_4_code 0 = .ok (.iconst 1, 1) := by decide +kernel
theorem d_Fa_sort_1 : decode prog_5_method_4_code 1 = .ok (.istore_n 1, 1) := by decide +kernel
theorem d_Fa_sort_2 : decode prog_5_method_4_code 2 = .ok (.iload_n 1, 1) := by decide +kernel
theorem d_Fa_sort_3 : decode prog_5_method_4_code 3 = .ok (.aload_n 0, 1) := by decide +kernel
theorem d_Fa_sort_4 : decode prog_5_method_4_code 4 = .ok (.getfield 20, 3) := by decide +kernel
theorem d_Fa_sort_7 : decode prog_5_method_4_code 7 = .ok (.if_icmp .ge (71), 3) := by decide +kernel
theorem d_Fa_sort_10 : decode prog_5_method_4_code 10 = .ok (.iload_n 1, 1) := by decide +kernel
theorem d_Fa_sort_11 : decode prog_5_method_4_code 11 = .ok (.istore_n 2, 1) := by decide +kernel
theorem d_Fa_sort_12 : decode prog_5_method_4_code 12 = .ok (.iload_n 2, 1) := by decide +kernel
theorem d_Fa_sort_13 : decode prog_5_method_4_code 13 = .ok (.ifCond .le (59), 3) := by decide +kernel
theorem d_Fa_sort_16 : decode prog_5_method_4_code 16 = .ok (.aload_n 0, 1) := by decide +kernel
theorem d_Fa_sort_17 : decode prog_5_method_4_code 17 = .ok (.getfield 13, 3) := by decide +kernel
theorem d_Fa_sort_20 : decode prog_5_method_4_code 20 = .ok (.iload_n 2, 1) := by decide +kernel
theorem d_Fa_sort_21 : decode prog_5_method_4_code 21 = .ok (.iconst 1, 1) := by decide +kernel
theorem d_Fa_sort_22 : decode prog_5_method_4_code 22 = .ok (.isub, 1) := by decide +kernel
theorem d_Fa_sort_23 : decode prog_5_method_4_code 23 = .ok (.aaload, 1) := by decide +kernel
theorem d_Fa_sort_24 : decode prog_5_method_4_code 24 = .ok (.aload_n 0, 1) := by decide +kernel
theorem d_Fa_sort_25 : decode prog_5_method_4_code 25 = .ok (.getfield 13, 3) := by decide +kernel
theorem d_Fa_sort_28 : decode prog_5_method_4_code 28 = .ok (.iload_n 2, 1) := by decide +kernel
theorem d_Fa_sort_29 : decode prog_5_method_4_code 29 = .ok (.aaload, 1) := by decide +kernel
theorem d_Fa_sort_30 : decode prog_5_method_4_code 30 = .ok (.invokestatic 33, 3) := by decide +kernel
theorem d_Fa_sort_33 : decode prog_5_method_4_code 33 = .ok (.ifCond .le (39), 3) := by decide +kernel
theorem d_Fa_sort_36 : decode prog_5_method_4_code 36 = .ok (.aload_n 0, 1) := by decide +kernel
theorem d_Fa_sort_37 : decode prog_5_method_4_code 37 = .ok (.getfield 13, 3) := by decide +kernel
theorem d_Fa_sort_40 : decode prog_5_method_4_code 40 = .ok (.iload_n 2, 1) := by decide +kernel
theorem d_Fa_sort_41 : decode prog_5_method_4_code 41 = .ok (.aaload, 1) := by decide +kernel
theorem d_Fa_sort_42 : decode prog_5_method_4_code 42 = .ok (.astore_n 3, 1) := by decide +kernel
theorem d_Fa_sort_43 : decode prog_5_method_4_code 43 = .ok (.aload_n 0, 1) := by decide +kernel
theorem d_Fa_sort_44 : decode prog_5_method_4_code 44 = .ok (.getfield 13, 3) := by decide +kernel
theorem d_Fa_sort_47 : decode prog_5_method_4_code 47 = .ok (.iload_n 2, 1) := by decide +kernel
theorem d_Fa_sort_48 : decode prog_5_method_4_code 48 = .ok (.aload_n 0, 1) := by decide +kernel
theorem d_Fa_sort_49 : decode prog_5_method_4_code 49 = .ok (.getfield 13, 3) := by decide +kernel
theorem d_Fa_sort_52 : decode prog_5_method_4_code 52 = .ok (.iload_n 2, 1) := by decide +kernel
theorem d_Fa_sort_53 : decode prog_5_method_4_code 53 = .ok (.iconst 1, 1) := by decide +kernel
theorem d_Fa_sort_54 : decode prog_5_method_4_code 54 = .ok (.isub, 1) := by decide +kernel
theorem d_Fa_sort_55 : decode prog_5_method_4_code 55 = .ok (.aaload, 1) := by decide +kernel
theorem d_Fa_sort_56 : decode prog_5_method_4_code 56 = .ok (.aastore, 1) := by decide +kernel
theorem d_Fa_sort_57 : decode prog_5_method_4_code 57 = .ok (.aload_n 0, 1) := by decide +kernel
theorem d_Fa_sort_58 : decode prog_5_method_4_code 58 = .ok (.getfield 13, 3) := by decide +kernel
theorem d_Fa_sort_61 : decode prog_5_method_4_code 61 = .ok (.iload_n 2, 1) := by decide +kernel
theorem d_Fa_sort_62 : decode prog_5_method_4_code 62 = .ok (.iconst 1, 1) := by decide +kernel
theorem d_Fa_sort_63 : decode prog_5_method_4_code 63 = .ok (.isub, 1) := by decide +kernel
theorem d_Fa_sort_64 : decode prog_5_method_4_code 64 = .ok (.aload_n 3, 1) := by decide +kernel
theorem d_Fa_sort_65 : decode prog_5_method_4_code 65 = .ok (.aastore, 1) := by decide +kernel
theorem d_Fa_sort_66 : decode prog_5_method_4_code 66 = .ok (.iinc 2 (-1), 3) := by decide +kernel
theorem d_Fa_sort_69 : decode prog_5_method_4_code 69 = .ok (.goto (-57), 3) := by decide +kernel
theorem d_Fa_sort_72 : decode prog_5_method_4_code 72 = .ok (.iinc 1 (1), 3) := by decide +kernel
theorem d_Fa_sort_75 : decode prog_5_method_4_code 75 = .ok (.goto (-73), 3) := by decide +kernel
theorem d_Fa_sort_78 : decode prog_5_method_4_code 78 = .ok (.return_, 1) := by decide +kernel
theorem d_Fa_order_0 : decode prog_5_method_5_code 0 = .ok (.iconst 0, 1) := by decide +kernel
theorem d_Fa_order_1 : decode prog_5_method_5_code 1 = .ok (.istore_n 2, 1) := by decide +kernel
theorem d_Fa_order_2 : decode prog_5_method_5_code 2 = .ok (.iload_n 2, 1) := by decide +kernel
theorem d_Fa_order_3 : decode prog_5_method_5_code 3 = .ok (.iconst 5, 1) := by decide +kernel
theorem d_Fa_order_4 : decode prog_5_method_5_code 4 = .ok (.if_icmp .ge (33), 3) := by decide +kernel
theorem d_Fa_order_7 : decode prog_5_method_5_code 7 = .ok (.aload_n 0, 1) := by decide +kernel
theorem d_Fa_order_8 : decode prog_5_method_5_code 8 = .ok (.iload_n 2, 1) := by decide +kernel
theorem d_Fa_order_9 : decode prog_5_method_5_code 9 = .ok (.iaload, 1) := by decide +kernel
theorem d_Fa_order_10 : decode prog_5_method_5_code 10 = .ok (.aload_n 1, 1) := by decide +kernel
theorem d_Fa_order_11 : decode prog_5_method_5_code 11 = .ok (.iload_n 2, 1) := by decide +kernel
theorem d_Fa_order_12 : decode prog_5_method_5_code 12 = .ok (.iaload, 1) := by decide +kernel
theorem d_Fa_order_13 : decode prog_5_method_5_code 13 = .ok (.if_icmp .eq (18), 3) := by decide +kernel
theorem d_Fa_order_16 : decode prog_5_method_5_code 16 = .ok (.aload_n 0, 1) := by decide +kernel
theorem d_Fa_order_17 : decode prog_5_method_5_code 17 = .ok (.iload_n 2, 1) := by decide +kernel
theorem d_Fa_order_18 : decode prog_5_method_5_code 18 = .ok (.iaload, 1) := by decide +kernel
theorem d_Fa_order_19 : decode prog_5_method_5_code 19 = .ok (.aload_n 1, 1) := by decide +kernel
theorem d_Fa_order_20 : decode prog_5_method_5_code 20 = .ok (.iload_n 2, 1) := by decide +kernel
theorem d_Fa_order_21 : decode prog_5_method_5_code 21 = .ok (.iaload, 1) := by decide +kernel
theorem d_Fa_order_22 : decode prog_5_method_5_code 22 = .ok (.if_icmp .ge (7), 3) := by decide +kernel
theorem d_Fa_order_25 : decode prog_5_method_5_code 25 = .ok (.iconst (-1), 1) := by decide +kernel
theorem d_Fa_order_26 : decode prog_5_method_5_code 26 = .ok (.goto (4), 3) := by decide +kernel
theorem d_Fa_order_29 : decode prog_5_method_5_code 29 = .ok (.iconst 1, 1) := by decide +kernel
theorem d_Fa_order_30 : decode prog_5_method_5_code 30 = .ok (.ireturn, 1) := by decide +kernel
theorem d_Fa_order_31 : decode prog_5_method_5_code 31 = .ok (.iinc 2 (1), 3) := by decide +kernel
theorem d_Fa_order_34 : decode prog_5_method_5_code 34 = .ok (.goto (-32), 3) := by decide +kernel
theorem d_Fa_order_37 : decode prog_5_method_5_code 37 = .ok (.iconst 0, 1) := by decide +kernel
theorem d_Fa_order_38 : decode prog_5_method_5_code 38 = .ok (.ireturn, 1) := by decide +kernel
theorem d_GC_layOut_0 : decode prog_1_method_25_code 0 = .ok (.iconst 0, 1) := by decide +kernel
theorem d_GC_layOut_1 : decode prog_1_method_25_code 1 = .ok (.istore_n 2, 1) := by decide +kernel
theorem d_GC_layOut_2 : decode prog_1_method_25_code 2 = .ok (.iload_n 2, 1) := by decide +kernel
theorem d_GC_layOut_3 : decode prog_1_method_25_code 3 = .ok (.iconst 4, 1) := by decide +kernel
theorem d_GC_layOut_4 : decode prog_1_method_25_code 4 = .ok (.if_icmp .ge (95), 3) := by decide +kernel
theorem d_GC_layOut_7 : decode prog_1_method_25_code 7 = .ok (.iload_n 2, 1) := by decide +kernel
theorem d_GC_layOut_8 : decode prog_1_method_25_code 8 = .ok (.aload_n 1, 1) := by decide +kernel
theorem d_GC_layOut_9 : decode prog_1_method_25_code 9 = .ok (.getfield 126, 3) := by decide +kernel
theorem d_GC_layOut_12 : decode prog_1_method_25_code 12 = .ok (.invokeinterface 85 1, 5) := by decide +kernel
theorem d_GC_layOut_17 : decode prog_1_method_25_code 17 = .ok (.if_icmp .ge (22), 3) := by decide +kernel
theorem d_GC_layOut_20 : decode prog_1_method_25_code 20 = .ok (.aload_n 1, 1) := by decide +kernel
theorem d_GC_layOut_21 : decode prog_1_method_25_code 21 = .ok (.getfield 126, 3) := by decide +kernel
theorem d_GC_layOut_24 : decode prog_1_method_25_code 24 = .ok (.iload_n 2, 1) := by decide +kernel
theorem d_GC_layOut_25 : decode prog_1_method_25_code 25 = .ok (.invokeinterface 118 2, 5) := by decide +kernel
theorem d_GC_layOut_30 : decode prog_1_method_25_code 30 = .ok (.checkcast 158, 3) := by decide +kernel
theorem d_GC_layOut_33 : decode prog_1_method_25_code 33 = .ok (.getfield 167, 3) := by decide +kernel
theorem d_GC_layOut_36 : decode prog_1_method_25_code 36 = .ok (.goto (4), 3) := by decide +kernel
theorem d_GC_layOut_39 : decode prog_1_method_25_code 39 = .ok (.iconst 0, 1) := by decide +kernel
theorem d_GC_layOut_40 : decode prog_1_method_25_code 40 = .ok (.istore_n 3, 1) := by decide +kernel
theorem d_GC_layOut_41 : decode prog_1_method_25_code 41 = .ok (.aload_n 0, 1) := by decide +kernel
theorem d_GC_layOut_42 : decode prog_1_method_25_code 42 = .ok (.getfield 26, 3) := by decide +kernel
theorem d_GC_layOut_45 : decode prog_1_method_25_code 45 = .ok (.getfield 231, 3) := by decide +kernel
theorem d_GC_layOut_48 : decode prog_1_method_25_code 48 = .ok (.iload_n 2, 1) := by decide +kernel
theorem d_GC_layOut_49 : decode prog_1_method_25_code 49 = .ok (.iload_n 3, 1) := by decide +kernel
theorem d_GC_layOut_50 : decode prog_1_method_25_code 50 = .ok (.iconst 1, 1) := by decide +kernel
theorem d_GC_layOut_51 : decode prog_1_method_25_code 51 = .ok (.if_icmp .lt (34), 3) := by decide +kernel
theorem d_GC_layOut_54 : decode prog_1_method_25_code 54 = .ok (.iload_n 3, 1) := by decide +kernel
theorem d_GC_layOut_55 : decode prog_1_method_25_code 55 = .ok (.aload_n 0, 1) := by decide +kernel
theorem d_GC_layOut_56 : decode prog_1_method_25_code 56 = .ok (.getfield 40, 3) := by decide +kernel
theorem d_GC_layOut_59 : decode prog_1_method_25_code 59 = .ok (.invokeinterface 85 1, 5) := by decide +kernel
theorem d_GC_layOut_64 : decode prog_1_method_25_code 64 = .ok (.if_icmp .gt (21), 3) := by decide +kernel
theorem d_GC_layOut_67 : decode prog_1_method_25_code 67 = .ok (.aload_n 0, 1) := by decide +kernel
theorem d_GC_layOut_68 : decode prog_1_method_25_code 68 = .ok (.getfield 40, 3) := by decide +kernel
theorem d_GC_layOut_71 : decode prog_1_method_25_code 71 = .ok (.iload_n 3, 1) := by decide +kernel
theorem d_GC_layOut_72 : decode prog_1_method_25_code 72 = .ok (.iconst 1, 1) := by decide +kernel
theorem d_GC_layOut_73 : decode prog_1_method_25_code 73 = .ok (.isub, 1) := by decide +kernel
theorem d_GC_layOut_74 : decode prog_1_method_25_code 74 = .ok (.invokeinterface 118 2, 5) := by decide +kernel
theorem d_GC_layOut_79 : decode prog_1_method_25_code 79 = .ok (.checkcast 30, 3) := by decide +kernel
theorem d_GC_layOut_82 : decode prog_1_method_25_code 82 = .ok (.goto (10), 3) := by decide +kernel
theorem d_GC_layOut_85 : decode prog_1_method_25_code 85 = .ok (.aload_n 0, 1) := by decide +kernel
theorem d_GC_layOut_86 : decode prog_1_method_25_code 86 = .ok (.getfield 26, 3) := by decide +kernel
theorem d_GC_layOut_89 : decode prog_1_method_25_code 89 = .ok (.getfield 235, 3) := by decide +kernel
theorem d_GC_layOut_92 : decode prog_1_method_25_code 92 = .ok (.aastore, 1) := by decide +kernel
theorem d_GC_layOut_93 : decode prog_1_method_25_code 93 = .ok (.iinc 2 (1), 3) := by decide +kernel
theorem d_GC_layOut_96 : decode prog_1_method_25_code 96 = .ok (.goto (-94), 3) := by decide +kernel
theorem d_GC_layOut_99 : decode prog_1_method_25_code 99 = .ok (.aload_n 0, 1) := by decide +kernel
theorem d_GC_layOut_100 : decode prog_1_method_25_code 100 = .ok (.getfield 26, 3) := by decide +kernel
theorem d_GC_layOut_103 : decode prog_1_method_25_code 103 = .ok (.getfield 231, 3) := by decide +kernel
theorem d_GC_layOut_106 : decode prog_1_method_25_code 106 = .ok (.iconst 4, 1) := by decide +kernel
theorem d_GC_layOut_107 : decode prog_1_method_25_code 107 = .ok (.aload_n 0, 1) := by decide +kernel
theorem d_GC_layOut_108 : decode prog_1_method_25_code 108 = .ok (.getfield 33, 3) := by decide +kernel
theorem d_GC_layOut_111 : decode prog_1_method_25_code 111 = .ok (.aastore, 1) := by decide +kernel
theorem d_GC_layOut_112 : decode prog_1_method_25_code 112 = .ok (.return_, 1) := by decide +kernel
theorem d_Jg_settle_0 : decode prog_6_method_4_code 0 = .ok (.aload_n 0, 1) := by decide +kernel
theorem d_Jg_settle_1 : decode prog_6_method_4_code 1 = .ok (.invokevirtual 56, 3) := by decide +kernel
theorem d_Jg_settle_4 : decode prog_6_method_4_code 4 = .ok (.iconst 0, 1) := by decide +kernel
theorem d_Jg_settle_5 : decode prog_6_method_4_code 5 = .ok (.istore_n 2, 1) := by decide +kernel
theorem d_Jg_settle_6 : decode prog_6_method_4_code 6 = .ok (.iload_n 2, 1) := by decide +kernel
theorem d_Jg_settle_7 : decode prog_6_method_4_code 7 = .ok (.iload_n 1, 1) := by decide +kernel
theorem d_Jg_settle_8 : decode prog_6_method_4_code 8 = .ok (.if_icmp .ge (59), 3) := by decide +kernel
theorem d_Jg_settle_11 : decode prog_6_method_4_code 11 = .ok (.aload_n 0, 1) := by decide +kernel
theorem d_Jg_settle_12 : decode prog_6_method_4_code 12 = .ok (.getfield 14, 3) := by decide +kernel
theorem d_Jg_settle_15 : decode prog_6_method_4_code 15 = .ok (.getfield 59, 3) := by decide +kernel
theorem d_Jg_settle_18 : decode prog_6_method_4_code 18 = .ok (.ifCond .ne (49), 3) := by decide +kernel
theorem d_Jg_settle_21 : decode prog_6_method_4_code 21 = .ok (.aload_n 0, 1) := by decide +kernel
theorem d_Jg_settle_22 : decode prog_6_method_4_code 22 = .ok (.invokevirtual 63, 3) := by decide +kernel
theorem d_Jg_settle_25 : decode prog_6_method_4_code 25 = .ok (.aload_n 0, 1) := by decide +kernel
theorem d_Jg_settle_26 : decode prog_6_method_4_code 26 = .ok (.dup, 1) := by decide +kernel
theorem d_Jg_settle_27 : decode prog_6_method_4_code 27 = .ok (.getfield 40, 3) := by decide +kernel
theorem d_Jg_settle_30 : decode prog_6_method_4_code 30 = .ok (.iconst 1, 1) := by decide +kernel
theorem d_Jg_settle_31 : decode prog_6_method_4_code 31 = .ok (.iadd, 1) := by decide +kernel
theorem d_Jg_settle_32 : decode prog_6_method_4_code 32 = .ok (.putfield 40, 3) := by decide +kernel
theorem d_Jg_settle_35 : decode prog_6_method_4_code 35 = .ok (.aload_n 0, 1) := by decide +kernel
theorem d_Jg_settle_36 : decode prog_6_method_4_code 36 = .ok (.getfield 14, 3) := by decide +kernel
theorem d_Jg_settle_39 : decode prog_6_method_4_code 39 = .ok (.getfield 47, 3) := by decide +kernel
theorem d_Jg_settle_42 : decode prog_6_method_4_code 42 = .ok (.aload_n 0, 1) := by decide +kernel
theorem d_Jg_settle_43 : decode prog_6_method_4_code 43 = .ok (.getfield 66, 3) := by decide +kernel
theorem d_Jg_settle_46 : decode prog_6_method_4_code 46 = .ok (.if_icmp .ne (15), 3) := by decide +kernel
theorem d_Jg_settle_49 : decode prog_6_method_4_code 49 = .ok (.aload_n 0, 1) := by decide +kernel
theorem d_Jg_settle_50 : decode prog_6_method_4_code 50 = .ok (.getfield 14, 3) := by decide +kernel
theorem d_Jg_settle_53 : decode prog_6_method_4_code 53 = .ok (.getfield 59, 3) := by decide +kernel
theorem d_Jg_settle_56 : decode prog_6_method_4_code 56 = .ok (.ifCond .ne (5), 3) := by decide +kernel
theorem d_Jg_settle_59 : decode prog_6_method_4_code 59 = .ok (.iconst 1, 1) := by decide +kernel
theorem d_Jg_settle_60 : decode prog_6_method_4_code 60 = .ok (.ireturn, 1) := by decide +kernel
theorem d_Jg_settle_61 : decode prog_6_method_4_code 61 = .ok (.iinc 2 (1), 3) := by decide +kernel
theorem d_Jg_settle_64 : decode prog_6_method_4_code 64 = .ok (.goto (-58), 3) := by decide +kernel
theorem d_Jg_settle_67 : decode prog_6_method_4_code 67 = .ok (.iconst 0, 1) := by decide +kernel
theorem d_Jg_settle_68 : decode prog_6_method_4_code 68 = .ok (.ireturn, 1) := by decide +kernel
theorem d_Jg_layFacts_0 : decode prog_6_method_6_code 0 = .ok (.iconst 0, 1) := by decide +kernel
theorem d_Jg_layFacts_1 : decode prog_6_method_6_code 1 = .ok (.istore_n 1, 1) := by decide +kernel
theorem d_Jg_layFacts_2 : decode prog_6_method_6_code 2 = .ok (.iload_n 1, 1) := by decide +kernel
theorem d_Jg_layFacts_3 : decode prog_6_method_6_code 3 = .ok (.iconst 5, 1) := by decide +kernel
theorem d_Jg_layFacts_4 : decode prog_6_method_6_code 4 = .ok (.if_icmp .ge (96), 3) := by decide +kernel
theorem d_Jg_layFacts_7 : decode prog_6_method_6_code 7 = .ok (.aload_n 0, 1) := by decide +kernel
theorem d_Jg_layFacts_8 : decode prog_6_method_6_code 8 = .ok (.getfield 25, 3) := by decide +kernel
theorem d_Jg_layFacts_11 : decode prog_6_method_6_code 11 = .ok (.iload_n 1, 1) := by decide +kernel
theorem d_Jg_layFacts_12 : decode prog_6_method_6_code 12 = .ok (.aaload, 1) := by decide +kernel
theorem d_Jg_layFacts_13 : decode prog_6_method_6_code 13 = .ok (.getfield 80, 3) := by decide +kernel
theorem d_Jg_layFacts_16 : decode prog_6_method_6_code 16 = .ok (.astore_n 2, 1) := by decide +kernel
theorem d_Jg_layFacts_17 : decode prog_6_method_6_code 17 = .ok (.iconst 0, 1) := by decide +kernel
theorem d_Jg_layFacts_18 : decode prog_6_method_6_code 18 = .ok (.istore_n 3, 1) := by decide +kernel
theorem d_Jg_layFacts_19 : decode prog_6_method_6_code 19 = .ok (.iload_n 3, 1) := by decide +kernel
theorem d_Jg_layFacts_20 : decode prog_6_method_6_code 20 = .ok (.aload_n 2, 1) := by decide +kernel
theorem d_Jg_layFacts_21 : decode prog_6_method_6_code 21 = .ok (.invokeinterface 84 1, 5) := by decide +kernel
theorem d_Jg_layFacts_26 : decode prog_6_method_6_code 26 = .ok (.if_icmp .ge (68), 3) := by decide +kernel
theorem d_Jg_layFacts_29 : decode prog_6_method_6_code 29 = .ok (.aload_n 2, 1) := by decide +kernel
theorem d_Jg_layFacts_30 : decode prog_6_method_6_code 30 = .ok (.iload_n 3, 1) := by decide +kernel
theorem d_Jg_layFacts_31 : decode prog_6_method_6_code 31 = .ok (.invokeinterface 88 2, 5) := by decide +kernel
theorem d_Jg_layFacts_36 : decode prog_6_method_6_code 36 = .ok (.checkcast 92, 3) := by decide +kernel
theorem d_Jg_layFacts_39 : decode prog_6_method_6_code 39 = .ok (.astore 4, 2) := by decide +kernel
theorem d_Jg_layFacts_41 : decode prog_6_method_6_code 41 = .ok (.aload 4, 2) := by decide +kernel
theorem d_Jg_layFacts_43 : decode prog_6_method_6_code 43 = .ok (.getfield 94, 3) := by decide +kernel
theorem d_Jg_layFacts_46 : decode prog_6_method_6_code 46 = .ok (.ifCond .ne (42), 3) := by decide +kernel
theorem d_Jg_layFacts_49 : decode prog_6_method_6_code 49 = .ok (.aload 4, 2) := by decide +kernel
theorem d_Jg_layFacts_51 : decode prog_6_method_6_code 51 = .ok (.getfield 97, 3) := by decide +kernel
theorem d_Jg_layFacts_54 : decode prog_6_method_6_code 54 = .ok (.ifnull (34), 3) := by decide +kernel
theorem d_Jg_layFacts_57 : decode prog_6_method_6_code 57 = .ok (.aload_n 0, 1) := by decide +kernel
theorem d_Jg_layFacts_58 : decode prog_6_method_6_code 58 = .ok (.getfield 14, 3) := by decide +kernel
theorem d_Jg_layFacts_61 : decode prog_6_method_6_code 61 = .ok (.aload 4, 2) := by decide +kernel
theorem d_Jg_layFacts_63 : decode prog_6_method_6_code 63 = .ok (.getfield 97, 3) := by decide +kernel
theorem d_Jg_layFacts_66 : decode prog_6_method_6_code 66 = .ok (.aload 4, 2) := by decide +kernel
theorem d_Jg_layFacts_68 : decode prog_6_method_6_code 68 = .ok (.getfield 97, 3) := by decide +kernel
theorem d_Jg_layFacts_71 : decode prog_6_method_6_code 71 = .ok (.getfield 101, 3) := by decide +kernel
theorem d_Jg_layFacts_74 : decode prog_6_method_6_code 74 = .ok (.aload 4, 2) := by decide +kernel
theorem d_Jg_layFacts_76 : decode prog_6_method_6_code 76 = .ok (.getfield 97, 3) := by decide +kernel
theorem d_Jg_layFacts_79 : decode prog_6_method_6_code 79 = .ok (.getfield 106, 3) := by decide +kernel
theorem d_Jg_layFacts_82 : decode prog_6_method_6_code 82 = .ok (.iconst 1, 1) := by decide +kernel
theorem d_Jg_layFacts_83 : decode prog_6_method_6_code 83 = .ok (.iload_n 1, 1) := by decide +kernel
theorem d_Jg_layFacts_84 : decode prog_6_method_6_code 84 = .ok (.ishl, 1) := by decide +kernel
theorem d_Jg_layFacts_85 : decode prog_6_method_6_code 85 = .ok (.invokevirtual 109, 3) := by decide +kernel
theorem d_Jg_layFacts_88 : decode prog_6_method_6_code 88 = .ok (.iinc 3 (1), 3) := by decide +kernel
theorem d_Jg_layFacts_91 : decode prog_6_method_6_code 91 = .ok (.goto (-72), 3) := by decide +kernel
theorem d_Jg_layFacts_94 : decode prog_6_method_6_code 94 = .ok (.iinc 1 (1), 3) := by decide +kernel
theorem d_Jg_layFacts_97 : decode prog_6_method_6_code 97 = .ok (.goto (-95), 3) := by decide +kernel
theorem d_Jg_layFacts_100 : decode prog_6_method_6_code 100 = .ok (.return_, 1) := by decide +kernel
theorem d_Fa_offer_0 : decode prog_5_method_3_code 0 = .ok (.aload_n 0, 1) := by decide +kernel
theorem d_Fa_offer_1 : decode prog_5_method_3_code 1 = .ok (.getfield 13, 3) := by decide +kernel
theorem d_Fa_offer_4 : decode prog_5_method_3_code 4 = .ok (.aload_n 0, 1) := by decide +kernel
theorem d_Fa_offer_5 : decode prog_5_method_3_code 5 = .ok (.getfield 20, 3) := by decide +kernel
theorem d_Fa_offer_8 : decode prog_5_method_3_code 8 = .ok (.aaload, 1) := by decide +kernel
theorem d_Fa_offer_9 : decode prog_5_method_3_code 9 = .ok (.astore 5, 2) := by decide +kernel
theorem d_Fa_offer_11 : decode prog_5_method_3_code 11 = .ok (.aload 5, 2) := by decide +kernel
theorem d_Fa_offer_13 : decode prog_5_method_3_code 13 = .ok (.iconst 0, 1) := by decide +kernel
theorem d_Fa_offer_14 : decode prog_5_method_3_code 14 = .ok (.aload_n 1, 1) := by decide +kernel
theorem d_Fa_offer_15 : decode prog_5_method_3_code 15 = .ok (.getfield 27, 3) := by decide +kernel
theorem d_Fa_offer_18 : decode prog_5_method_3_code 18 = .ok (.iastore, 1) := by decide +kernel
theorem d_Fa_offer_19 : decode prog_5_method_3_code 19 = .ok (.aload 5, 2) := by decide +kernel
theorem d_Fa_offer_21 : decode prog_5_method_3_code 21 = .ok (.iconst 1, 1) := by decide +kernel
theorem d_Fa_offer_22 : decode prog_5_method_3_code 22 = .ok (.aload_n 1, 1) := by decide +kernel
theorem d_Fa_offer_23 : decode prog_5_method_3_code 23 = .ok (.getfield 32, 3) := by decide +kernel
theorem d_Fa_offer_26 : decode prog_5_method_3_code 26 = .ok (.iastore, 1) := by decide +kernel
theorem d_Fa_offer_27 : decode prog_5_method_3_code 27 = .ok (.aload 5, 2) := by decide +kernel
theorem d_Fa_offer_29 : decode prog_5_method_3_code 29 = .ok (.iconst 2, 1) := by decide +kernel
theorem d_Fa_offer_30 : decode prog_5_method_3_code 30 = .ok (.iload_n 2, 1) := by decide +kernel
theorem d_Fa_offer_31 : decode prog_5_method_3_code 31 = .ok (.iastore, 1) := by decide +kernel
theorem d_Fa_offer_32 : decode prog_5_method_3_code 32 = .ok (.aload 5, 2) := by decide +kernel
theorem d_Fa_offer_34 : decode prog_5_method_3_code 34 = .ok (.iconst 3, 1) := by decide +kernel
theorem d_Fa_offer_35 : decode prog_5_method_3_code 35 = .ok (.iload_n 3, 1) := by decide +kernel
theorem d_Fa_offer_36 : decode prog_5_method_3_code 36 = .ok (.iastore, 1) := by decide +kernel
theorem d_Fa_offer_37 : decode prog_5_method_3_code 37 = .ok (.aload 5, 2) := by decide +kernel
theorem d_Fa_offer_39 : decode prog_5_method_3_code 39 = .ok (.iconst 4, 1) := by decide +kernel
theorem d_Fa_offer_40 : decode prog_5_method_3_code 40 = .ok (.iload 4, 2) := by decide +kernel
theorem d_Fa_offer_42 : decode prog_5_method_3_code 42 = .ok (.iastore, 1) := by decide +kernel
theorem d_Fa_offer_43 : decode prog_5_method_3_code 43 = .ok (.iconst 0, 1) := by decide +kernel
theorem d_Fa_offer_44 : decode prog_5_method_3_code 44 = .ok (.istore 6, 2) := by decide +kernel
theorem d_Fa_offer_46 : decode prog_5_method_3_code 46 = .ok (.iload 6, 2) := by decide +kernel
theorem d_Fa_offer_48 : decode prog_5_method_3_code 48 = .ok (.aload_n 0, 1) := by decide +kernel
theorem d_Fa_offer_49 : decode prog_5_method_3_code 49 = .ok (.getfield 20, 3) := by decide +kernel
theorem d_Fa_offer_52 : decode prog_5_method_3_code 52 = .ok (.if_icmp .ge (25), 3) := by decide +kernel
theorem d_Fa_offer_55 : decode prog_5_method_3_code 55 = .ok (.aload_n 0, 1) := by decide +kernel
theorem d_Fa_offer_56 : decode prog_5_method_3_code 56 = .ok (.getfield 13, 3) := by decide +kernel
theorem d_Fa_offer_59 : decode prog_5_method_3_code 59 = .ok (.iload 6, 2) := by decide +kernel
theorem d_Fa_offer_61 : decode prog_5_method_3_code 61 = .ok (.aaload, 1) := by decide +kernel
theorem d_Fa_offer_62 : decode prog_5_method_3_code 62 = .ok (.aload 5, 2) := by decide +kernel
theorem d_Fa_offer_64 : decode prog_5_method_3_code 64 = .ok (.invokestatic 33, 3) := by decide +kernel
theorem d_Fa_offer_67 : decode prog_5_method_3_code 67 = .ok (.ifCond .ne (4), 3) := by decide +kernel
theorem d_Fa_offer_70 : decode prog_5_method_3_code 70 = .ok (.return_, 1) := by decide +kernel
theorem d_Fa_offer_71 : decode prog_5_method_3_code 71 = .ok (.iinc 6 (1), 3) := by decide +kernel
theorem d_Fa_offer_74 : decode prog_5_method_3_code 74 = .ok (.goto (-28), 3) := by decide +kernel
theorem d_Fa_offer_77 : decode prog_5_method_3_code 77 = .ok (.aload_n 0, 1) := by decide +kernel
theorem d_Fa_offer_78 : decode prog_5_method_3_code 78 = .ok (.getfield 20, 3) := by decide +kernel
theorem d_Fa_offer_81 : decode prog_5_method_3_code 81 = .ok (.aload_n 0, 1) := by decide +kernel
theorem d_Fa_offer_82 : decode prog_5_method_3_code 82 = .ok (.getfield 16, 3) := by decide +kernel
theorem d_Fa_offer_85 : decode prog_5_method_3_code 85 = .ok (.if_icmp .lt (11), 3) := by decide +kernel
theorem d_Fa_offer_88 : decode prog_5_method_3_code 88 = .ok (.aload_n 0, 1) := by decide +kernel
theorem d_Fa_offer_89 : decode prog_5_method_3_code 89 = .ok (.iconst 1, 1) := by decide +kernel
theorem d_Fa_offer_90 : decode prog_5_method_3_code 90 = .ok (.putfield 23, 3) := by decide +kernel
theorem d_Fa_offer_93 : decode prog_5_method_3_code 93 = .ok (.goto (13), 3) := by decide +kernel
theorem d_Fa_offer_96 : decode prog_5_method_3_code 96 = .ok (.aload_n 0, 1) := by decide +kernel
theorem d_Fa_offer_97 : decode prog_5_method_3_code 97 = .ok (.dup, 1) := by decide +kernel
theorem d_Fa_offer_98 : decode prog_5_method_3_code 98 = .ok (.getfield 20, 3) := by decide +kernel
theorem d_Fa_offer_101 : decode prog_5_method_3_code 101 = .ok (.iconst 1, 1) := by decide +kernel
theorem d_Fa_offer_102 : decode prog_5_method_3_code 102 = .ok (.iadd, 1) := by decide +kernel
theorem d_Fa_offer_103 : decode prog_5_method_3_code 103 = .ok (.putfield 20, 3) := by decide +kernel
theorem d_Fa_offer_106 : decode prog_5_method_3_code 106 = .ok (.return_, 1) := by decide +kernel
theorem d_Jg_makeRound_0 : decode prog_6_method_7_code 0 = .ok (.aload_n 0, 1) := by decide +kernel
theorem d_Jg_makeRound_1 : decode prog_6_method_7_code 1 = .ok (.aload_n 0, 1) := by decide +kernel
theorem d_Jg_makeRound_2 : decode prog_6_method_7_code 2 = .ok (.getfield 14, 3) := by decide +kernel
theorem d_Jg_makeRound_5 : decode prog_6_method_7_code 5 = .ok (.getfield 47, 3) := by decide +kernel
theorem d_Jg_makeRound_8 : decode prog_6_method_7_code 8 = .ok (.putfield 66, 3) := by decide +kernel
theorem d_Jg_makeRound_11 : decode prog_6_method_7_code 11 = .ok (.aload_n 0, 1) := by decide +kernel
theorem d_Jg_makeRound_12 : decode prog_6_method_7_code 12 = .ok (.iconst 0, 1) := by decide +kernel
theorem d_Jg_makeRound_13 : decode prog_6_method_7_code 13 = .ok (.putfield 69, 3) := by decide +kernel
theorem d_Jg_makeRound_16 : decode prog_6_method_7_code 16 = .ok (.iconst 0, 1) := by decide +kernel
theorem d_Jg_makeRound_17 : decode prog_6_method_7_code 17 = .ok (.istore_n 1, 1) := by decide +kernel
theorem d_Jg_makeRound_18 : decode prog_6_method_7_code 18 = .ok (.iload_n 1, 1) := by decide +kernel
theorem d_Jg_makeRound_19 : decode prog_6_method_7_code 19 = .ok (.iconst 5, 1) := by decide +kernel
theorem d_Jg_makeRound_20 : decode prog_6_method_7_code 20 = .ok (.if_icmp .ge (78), 3) := by decide +kernel
theorem d_Jg_makeRound_23 : decode prog_6_method_7_code 23 = .ok (.aload_n 0, 1) := by decide +kernel
theorem d_Jg_makeRound_24 : decode prog_6_method_7_code 24 = .ok (.getfield 25, 3) := by decide +kernel
theorem d_Jg_makeRound_27 : decode prog_6_method_7_code 27 = .ok (.iload_n 1, 1) := by decide +kernel
theorem d_Jg_makeRound_28 : decode prog_6_method_7_code 28 = .ok (.aaload, 1) := by decide +kernel
theorem d_Jg_makeRound_29 : decode prog_6_method_7_code 29 = .ok (.getfield 80, 3) := by decide +kernel
theorem d_Jg_makeRound_32 : decode prog_6_method_7_code 32 = .ok (.astore_n 2, 1) := by decide +kernel
theorem d_Jg_makeRound_33 : decode prog_6_method_7_code 33 = .ok (.iconst 0, 1) := by decide +kernel
theorem d_Jg_makeRound_34 : decode prog_6_method_7_code 34 = .ok (.istore_n 3, 1) := by decide +kernel
theorem d_Jg_makeRound_35 : decode prog_6_method_7_code 35 = .ok (.iload_n 3, 1) := by decide +kernel
theorem d_Jg_makeRound_36 : decode prog_6_method_7_code 36 = .ok (.aload_n 2, 1) := by decide +kernel
theorem d_Jg_makeRound_37 : decode prog_6_method_7_code 37 = .ok (.invokeinterface 84 1, 5) := by decide +kernel
theorem d_Jg_makeRound_42 : decode prog_6_method_7_code 42 = .ok (.if_icmp .ge (50), 3) := by decide +kernel
theorem d_Jg_makeRound_45 : decode prog_6_method_7_code 45 = .ok (.aload_n 2, 1) := by decide +kernel
theorem d_Jg_makeRound_46 : decode prog_6_method_7_code 46 = .ok (.iload_n 3, 1) := by decide +kernel
theorem d_Jg_makeRound_47 : decode prog_6_method_7_code 47 = .ok (.invokeinterface 88 2, 5) := by decide +kernel
theorem d_Jg_makeRound_52 : decode prog_6_method_7_code 52 = .ok (.checkcast 92, 3) := by decide +kernel
theorem d_Jg_makeRound_55 : decode prog_6_method_7_code 55 = .ok (.astore 4, 2) := by decide +kernel
theorem d_Jg_makeRound_57 : decode prog_6_method_7_code 57 = .ok (.aload 4, 2) := by decide +kernel
theorem d_Jg_makeRound_59 : decode prog_6_method_7_code 59 = .ok (.getfield 94, 3) := by decide +kernel
theorem d_Jg_makeRound_62 : decode prog_6_method_7_code 62 = .ok (.iconst 1, 1) := by decide +kernel
theorem d_Jg_makeRound_63 : decode prog_6_method_7_code 63 = .ok (.if_icmp .ne (23), 3) := by decide +kernel
theorem d_Jg_makeRound_66 : decode prog_6_method_7_code 66 = .ok (.aload_n 0, 1) := by decide +kernel
theorem d_Jg_makeRound_67 : decode prog_6_method_7_code 67 = .ok (.aload 4, 2) := by decide +kernel
theorem d_Jg_makeRound_69 : decode prog_6_method_7_code 69 = .ok (.iload_n 1, 1) := by decide +kernel
theorem d_Jg_makeRound_70 : decode prog_6_method_7_code 70 = .ok (.invokevirtual 113, 3) := by decide +kernel
theorem d_Jg_makeRound_73 : decode prog_6_method_7_code 73 = .ok (.aload_n 0, 1) := by decide +kernel
theorem d_Jg_makeRound_74 : decode prog_6_method_7_code 74 = .ok (.dup, 1) := by decide +kernel
theorem d_Jg_makeRound_75 : decode prog_6_method_7_code 75 = .ok (.getfield 69, 3) := by decide +kernel
theorem d_Jg_makeRound_78 : decode prog_6_method_7_code 78 = .ok (.aload_n 0, 1) := by decide +kernel
theorem d_Jg_makeRound_79 : decode prog_6_method_7_code 79 = .ok (.getfield 117, 3) := by decide +kernel
theorem d_Jg_makeRound_82 : decode prog_6_method_7_code 82 = .ok (.ior, 1) := by decide +kernel
theorem d_Jg_makeRound_83 : decode prog_6_method_7_code 83 = .ok (.putfield 69, 3) := by decide +kernel
theorem d_Jg_makeRound_86 : decode prog_6_method_7_code 86 = .ok (.iinc 3 (1), 3) := by decide +kernel
theorem d_Jg_makeRound_89 : decode prog_6_method_7_code 89 = .ok (.goto (-54), 3) := by decide +kernel
theorem d_Jg_makeRound_92 : decode prog_6_method_7_code 92 = .ok (.iinc 1 (1), 3) := by decide +kernel
theorem d_Jg_makeRound_95 : decode prog_6_method_7_code 95 = .ok (.goto (-77), 3) := by decide +kernel
theorem d_Jg_makeRound_98 : decode prog_6_method_7_code 98 = .ok (.return_, 1) := by decide +kernel
theorem d_Jg_search_0 : decode prog_6_method_10_code 0 = .ok (.iconst 1, 1) := by decide +kernel
theorem d_Jg_search_1 : decode prog_6_method_10_code 1 = .ok (.iload_n 2, 1) := by decide +kernel
theorem d_Jg_search_2 : decode prog_6_method_10_code 2 = .ok (.ishl, 1) := by decide +kernel
theorem d_Jg_search_3 : decode prog_6_method_10_code 3 = .ok (.istore_n 3, 1) := by decide +kernel
theorem d_Jg_search_4 : decode prog_6_method_10_code 4 = .ok (.aload_n 0, 1) := by decide +kernel
theorem d_Jg_search_5 : decode prog_6_method_10_code 5 = .ok (.bipush (17), 2) := by decide +kernel
theorem d_Jg_search_7 : decode prog_6_method_10_code 7 = .ok (.iload_n 3, 1) := by decide +kernel
theorem d_Jg_search_8 : decode prog_6_method_10_code 8 = .ok (.ior, 1) := by decide +kernel
theorem d_Jg_search_9 : decode prog_6_method_10_code 9 = .ok (.aload_n 1, 1) := by decide +kernel
theorem d_Jg_search_10 : decode prog_6_method_10_code 10 = .ok (.getfield 126, 3) := by decide +kernel
theorem d_Jg_search_13 : decode prog_6_method_10_code 13 = .ok (.ifCond .eq (9), 3) := by decide +kernel
theorem d_Jg_search_16 : decode prog_6_method_10_code 16 = .ok (.iload_n 3, 1) := by decide +kernel
theorem d_Jg_search_17 : decode prog_6_method_10_code 17 = .ok (.iconst 1, 1) := by decide +kernel
theorem d_Jg_search_18 : decode prog_6_method_10_code 18 = .ok (.isub, 1) := by decide +kernel
theorem d_Jg_search_19 : decode prog_6_method_10_code 19 = .ok (.goto (4), 3) := by decide +kernel
theorem d_Jg_search_22 : decode prog_6_method_10_code 22 = .ok (.iconst 0, 1) := by decide +kernel
theorem d_Jg_search_23 : decode prog_6_method_10_code 23 = .ok (.ior, 1) := by decide +kernel
theorem d_Jg_search_24 : decode prog_6_method_10_code 24 = .ok (.putfield 129, 3) := by decide +kernel
theorem d_Jg_search_27 : decode prog_6_method_10_code 27 = .ok (.aload_n 0, 1) := by decide +kernel
theorem d_Jg_search_28 : decode prog_6_method_10_code 28 = .ok (.iconst 0, 1) := by decide +kernel
theorem d_Jg_search_29 : decode prog_6_method_10_code 29 = .ok (.putfield 120, 3) := by decide +kernel
theorem d_Jg_search_32 : decode prog_6_method_10_code 32 = .ok (.aload_n 0, 1) := by decide +kernel
theorem d_Jg_search_33 : decode prog_6_method_10_code 33 = .ok (.iconst 0, 1) := by decide +kernel
theorem d_Jg_search_34 : decode prog_6_method_10_code 34 = .ok (.putfield 123, 3) := by decide +kernel
theorem d_Jg_search_37 : decode prog_6_method_10_code 37 = .ok (.aload_n 0, 1) := by decide +kernel
theorem d_Jg_search_38 : decode prog_6_method_10_code 38 = .ok (.iconst 0, 1) := by decide +kernel
theorem d_Jg_search_39 : decode prog_6_method_10_code 39 = .ok (.putfield 117, 3) := by decide +kernel
theorem d_Jg_search_42 : decode prog_6_method_10_code 42 = .ok (.aload_n 0, 1) := by decide +kernel
theorem d_Jg_search_43 : decode prog_6_method_10_code 43 = .ok (.aload_n 1, 1) := by decide +kernel
theorem d_Jg_search_44 : decode prog_6_method_10_code 44 = .ok (.iconst 0, 1) := by decide +kernel
theorem d_Jg_search_45 : decode prog_6_method_10_code 45 = .ok (.iconst 0, 1) := by decide +kernel
theorem d_Jg_search_46 : decode prog_6_method_10_code 46 = .ok (.iload_n 3, 1) := by decide +kernel
theorem d_Jg_search_47 : decode prog_6_method_10_code 47 = .ok (.invokevirtual 132, 3) := by decide +kernel
theorem d_Jg_search_50 : decode prog_6_method_10_code 50 = .ok (.return_, 1) := by decide +kernel
theorem d_Jg_bind_0 : decode prog_6_method_11_code 0 = .ok (.iload_n 2, 1) := by decide +kernel
theorem d_Jg_bind_1 : decode prog_6_method_11_code 1 = .ok (.aload_n 1, 1) := by decide +kernel
theorem d_Jg_bind_2 : decode prog_6_method_11_code 2 = .ok (.getfield 136, 3) := by decide +kernel
theorem d_Jg_bind_5 : decode prog_6_method_11_code 5 = .ok (.invokeinterface 84 1, 5) := by decide +kernel
theorem d_Jg_bind_10 : decode prog_6_method_11_code 10 = .ok (.if_icmp .lt (11), 3) := by decide +kernel
theorem d_Jg_bind_13 : decode prog_6_method_11_code 13 = .ok (.aload_n 0, 1) := by decide +kernel
theorem d_Jg_bind_14 : decode prog_6_method_11_code 14 = .ok (.aload_n 1, 1) := by decide +kernel
theorem d_Jg_bind_15 : decode prog_6_method_11_code 15 = .ok (.iload 4, 2) := by decide +kernel
theorem d_Jg_bind_17 : decode prog_6_method_11_code 17 = .ok (.invokevirtual 139, 3) := by decide +kernel
theorem d_Jg_bind_20 : decode prog_6_method_11_code 20 = .ok (.return_, 1) := by decide +kernel
theorem d_Jg_bind_21 : decode prog_6_method_11_code 21 = .ok (.aload_n 1, 1) := by decide +kernel
theorem d_Jg_bind_22 : decode prog_6_method_11_code 22 = .ok (.getfield 136, 3) := by decide +kernel
theorem d_Jg_bind_25 : decode prog_6_method_11_code 25 = .ok (.iload_n 2, 1) := by decide +kernel
theorem d_Jg_bind_26 : decode prog_6_method_11_code 26 = .ok (.invokeinterface 88 2, 5) := by decide +kernel
theorem d_Jg_bind_31 : decode prog_6_method_11_code 31 = .ok (.checkcast 102, 3) := by decide +kernel
theorem d_Jg_bind_34 : decode prog_6_method_11_code 34 = .ok (.astore 5, 2) := by decide +kernel
theorem d_Jg_bind_36 : decode prog_6_method_11_code 36 = .ok (.iconst 0, 1) := by decide +kernel
theorem d_Jg_bind_37 : decode prog_6_method_11_code 37 = .ok (.istore 6, 2) := by decide +kernel
theorem d_Jg_bind_39 : decode prog_6_method_11_code 39 = .ok (.iload 6, 2) := by decide +kernel
theorem d_Jg_bind_41 : decode prog_6_method_11_code 41 = .ok (.aload_n 0, 1) := by decide +kernel
theorem d_Jg_bind_42 : decode prog_6_method_11_code 42 = .ok (.getfield 66, 3) := by decide +kernel
theorem d_Jg_bind_45 : decode prog_6_method_11_code 45 = .ok (.if_icmp .ge (65), 3) := by decide +kernel
theorem d_Jg_bind_48 : decode prog_6_method_11_code 48 = .ok (.aload_n 0, 1) := by decide +kernel
theorem d_Jg_bind_49 : decode prog_6_method_11_code 49 = .ok (.getfield 14, 3) := by decide +kernel
theorem d_Jg_bind_52 : decode prog_6_method_11_code 52 = .ok (.getfield 59, 3) := by decide +kernel
theorem d_Jg_bind_55 : decode prog_6_method_11_code 55 = .ok (.ifCond .ne (55), 3) := by decide +kernel
theorem d_Jg_bind_58 : decode prog_6_method_11_code 58 = .ok (.aload_n 0, 1) := by decide +kernel
theorem d_Jg_bind_59 : decode prog_6_method_11_code 59 = .ok (.getfield 14, 3) := by decide +kernel
theorem d_Jg_bind_62 : decode prog_6_method_11_code 62 = .ok (.getfield 142, 3) := by decide +kernel
theorem d_Jg_bind_65 : decode prog_6_method_11_code 65 = .ok (.iload 6, 2) := by decide +kernel
theorem d_Jg_bind_67 : decode prog_6_method_11_code 67 = .ok (.aaload, 1) := by decide +kernel
theorem d_Jg_bind_68 : decode prog_6_method_11_code 68 = .ok (.astore 7, 2) := by decide +kernel
theorem d_Jg_bind_70 : decode prog_6_method_11_code 70 = .ok (.aload_n 0, 1) := by decide +kernel
theorem d_Jg_bind_71 : decode prog_6_method_11_code 71 = .ok (.aload 5, 2) := by decide +kernel
theorem d_Jg_bind_73 : decode prog_6_method_11_code 73 = .ok (.aload 7, 2) := by decide +kernel
theorem d_Jg_bind_75 : decode prog_6_method_11_code 75 = .ok (.iload_n 3, 1) := by decide +kernel
theorem d_Jg_bind_76 : decode prog_6_method_11_code 76 = .ok (.invokevirtual 146, 3) := by decide +kernel
theorem d_Jg_bind_79 : decode prog_6_method_11_code 79 = .ok (.istore 8, 2) := by decide +kernel
theorem d_Jg_bind_81 : decode prog_6_method_11_code 81 = .ok (.iload 8, 2) := by decide +kernel
theorem d_Jg_bind_83 : decode prog_6_method_11_code 83 = .ok (.iconst (-1), 1) := by decide +kernel
theorem d_Jg_bind_84 : decode prog_6_method_11_code 84 = .ok (.if_icmp .eq (20), 3) := by decide +kernel
theorem d_Jg_bind_87 : decode prog_6_method_11_code 87 = .ok (.aload_n 0, 1) := by decide +kernel
theorem d_Jg_bind_88 : decode prog_6_method_11_code 88 = .ok (.aload_n 1, 1) := by decide +kernel
theorem d_Jg_bind_89 : decode prog_6_method_11_code 89 = .ok (.iload_n 2, 1) := by decide +kernel
theorem d_Jg_bind_90 : decode prog_6_method_11_code 90 = .ok (.iconst 1, 1) := by decide +kernel
theorem d_Jg_bind_91 : decode prog_6_method_11_code 91 = .ok (.iadd, 1) := by decide +kernel
theorem d_Jg_bind_92 : decode prog_6_method_11_code 92 = .ok (.iload 8, 2) := by decide +kernel
theorem d_Jg_bind_94 : decode prog_6_method_11_code 94 = .ok (.iload 4, 2) := by decide +kernel
theorem d_Jg_bind_96 : decode prog_6_method_11_code 96 = .ok (.aload 7, 2) := by decide +kernel
theorem d_Jg_bind_98 : decode prog_6_method_11_code 98 = .ok (.iconst 4, 1) := by decide +kernel
theorem d_Jg_bind_99 : decode prog_6_method_11_code 99 = .ok (.iaload, 1) := by decide +kernel
theorem d_Jg_bind_100 : decode prog_6_method_11_code 100 = .ok (.ior, 1) := by decide +kernel
theorem d_Jg_bind_101 : decode prog_6_method_11_code 101 = .ok (.invokevirtual 132, 3) := by decide +kernel
theorem d_Jg_bind_104 : decode prog_6_method_11_code 104 = .ok (.iinc 6 (1), 3) := by decide +kernel
theorem d_Jg_bind_107 : decode prog_6_method_11_code 107 = .ok (.goto (-68), 3) := by decide +kernel
theorem d_Jg_bind_110 : decode prog_6_method_11_code 110 = .ok (.return_, 1) := by decide +kernel
theorem d_Jg_finish_0 : decode prog_6_method_12_code 0 = .ok (.aload_n 0, 1) := by decide +kernel
theorem d_Jg_finish_1 : decode prog_6_method_12_code 1 = .ok (.aload_n 1, 1) := by decide +kernel
theorem d_Jg_finish_2 : decode prog_6_method_12_code 2 = .ok (.getfield 150, 3) := by decide +kernel
theorem d_Jg_finish_5 : decode prog_6_method_12_code 5 = .ok (.invokevirtual 153, 3) := by decide +kernel
theorem d_Jg_finish_8 : decode prog_6_method_12_code 8 = .ok (.istore_n 3, 1) := by decide +kernel
theorem d_Jg_finish_9 : decode prog_6_method_12_code 9 = .ok (.iload_n 3, 1) := by decide +kernel
theorem d_Jg_finish_10 : decode prog_6_method_12_code 10 = .ok (.iconst 1, 1) := by decide +kernel
theorem d_Jg_finish_11 : decode prog_6_method_12_code 11 = .ok (.if_icmp .eq (28), 3) := by decide +kernel
theorem d_Jg_finish_14 : decode prog_6_method_12_code 14 = .ok (.aload_n 0, 1) := by decide +kernel
theorem d_Jg_finish_15 : decode prog_6_method_12_code 15 = .ok (.iconst 1, 1) := by decide +kernel
theorem d_Jg_finish_16 : decode prog_6_method_12_code 16 = .ok (.putfield 123, 3) := by decide +kernel
theorem d_Jg_finish_19 : decode prog_6_method_12_code 19 = .ok (.aload_n 0, 1) := by decide +kernel
theorem d_Jg_finish_20 : decode prog_6_method_12_code 20 = .ok (.dup, 1) := by decide +kernel
theorem d_Jg_finish_21 : decode prog_6_method_12_code 21 = .ok (.getfield 117, 3) := by decide +kernel
theorem d_Jg_finish_24 : decode prog_6_method_12_code 24 = .ok (.iload_n 3, 1) := by decide +kernel
theorem d_Jg_finish_25 : decode prog_6_method_12_code 25 = .ok (.iconst (-1), 1) := by decide +kernel
theorem d_Jg_finish_26 : decode prog_6_method_12_code 26 = .ok (.if_icmp .ne (7), 3) := by decide +kernel
theorem d_Jg_finish_29 : decode prog_6_method_12_code 29 = .ok (.iconst 1, 1) := by decide +kernel
theorem d_Jg_finish_30 : decode prog_6_method_12_code 30 = .ok (.goto (4), 3) := by decide +kernel
theorem d_Jg_finish_33 : decode prog_6_method_12_code 33 = .ok (.iconst 0, 1) := by decide +kernel
theorem d_Jg_finish_34 : decode prog_6_method_12_code 34 = .ok (.ior, 1) := by decide +kernel
theorem d_Jg_finish_35 : decode prog_6_method_12_code 35 = .ok (.putfield 117, 3) := by decide +kernel
theorem d_Jg_finish_38 : decode prog_6_method_12_code 38 = .ok (.return_, 1) := by decide +kernel
theorem d_Jg_finish_39 : decode prog_6_method_12_code 39 = .ok (.aload_n 0, 1) := by decide +kernel
theorem d_Jg_finish_40 : decode prog_6_method_12_code 40 = .ok (.iconst 1, 1) := by decide +kernel
theorem d_Jg_finish_41 : decode prog_6_method_12_code 41 = .ok (.putfield 120, 3) := by decide +kernel
theorem d_Jg_finish_44 : decode prog_6_method_12_code 44 = .ok (.aload_n 1, 1) := by decide +kernel
theorem d_Jg_finish_45 : decode prog_6_method_12_code 45 = .ok (.getfield 97, 3) := by decide +kernel
theorem d_Jg_finish_48 : decode prog_6_method_12_code 48 = .ok (.astore 4, 2) := by decide +kernel
theorem d_Jg_finish_50 : decode prog_6_method_12_code 50 = .ok (.aload 4, 2) := by decide +kernel
theorem d_Jg_finish_52 : decode prog_6_method_12_code 52 = .ok (.ifnull (31), 3) := by decide +kernel
theorem d_Jg_finish_55 : decode prog_6_method_12_code 55 = .ok (.aload_n 0, 1) := by decide +kernel
theorem d_Jg_finish_56 : decode prog_6_method_12_code 56 = .ok (.getfield 14, 3) := by decide +kernel
theorem d_Jg_finish_59 : decode prog_6_method_12_code 59 = .ok (.aload 4, 2) := by decide +kernel
theorem d_Jg_finish_61 : decode prog_6_method_12_code 61 = .ok (.aload_n 0, 1) := by decide +kernel
theorem d_Jg_finish_62 : decode prog_6_method_12_code 62 = .ok (.aload 4, 2) := by decide +kernel
theorem d_Jg_finish_64 : decode prog_6_method_12_code 64 = .ok (.getfield 101, 3) := by decide +kernel
theorem d_Jg_finish_67 : decode prog_6_method_12_code 67 = .ok (.invokevirtual 157, 3) := by decide +kernel
theorem d_Jg_finish_70 : decode prog_6_method_12_code 70 = .ok (.aload_n 0, 1) := by decide +kernel
theorem d_Jg_finish_71 : decode prog_6_method_12_code 71 = .ok (.aload 4, 2) := by decide +kernel
theorem d_Jg_finish_73 : decode prog_6_method_12_code 73 = .ok (.getfield 106, 3) := by decide +kernel
theorem d_Jg_finish_76 : decode prog_6_method_12_code 76 = .ok (.invokevirtual 157, 3) := by decide +kernel
theorem d_Jg_finish_79 : decode prog_6_method_12_code 79 = .ok (.iload_n 2, 1) := by decide +kernel
theorem d_Jg_finish_80 : decode prog_6_method_12_code 80 = .ok (.invokevirtual 109, 3) := by decide +kernel
theorem d_Jg_finish_83 : decode prog_6_method_12_code 83 = .ok (.return_, 1) := by decide +kernel
theorem d_Jg_work_0 : decode prog_6_method_16_code 0 = .ok (.iconst 0, 1) := by decide +kernel
theorem d_Jg_work_1 : decode prog_6_method_16_code 1 = .ok (.istore_n 2, 1) := by decide +kernel
theorem d_Jg_work_2 : decode prog_6_method_16_code 2 = .ok (.iconst 0, 1) := by decide +kernel
theorem d_Jg_work_3 : decode prog_6_method_16_code 3 = .ok (.istore_n 3, 1) := by decide +kernel
theorem d_Jg_work_4 : decode prog_6_method_16_code 4 = .ok (.iload_n 3, 1) := by decide +kernel
theorem d_Jg_work_5 : decode prog_6_method_16_code 5 = .ok (.aload_n 1, 1) := by decide +kernel
theorem d_Jg_work_6 : decode prog_6_method_16_code 6 = .ok (.arraylength, 1) := by decide +kernel
theorem d_Jg_work_7 : decode prog_6_method_16_code 7 = .ok (.if_icmp .ge (132), 3) := by decide +kernel
theorem d_Jg_work_10 : decode prog_6_method_16_code 10 = .ok (.aload_n 1, 1) := by decide +kernel
theorem d_Jg_work_11 : decode prog_6_method_16_code 11 = .ok (.iload_n 3, 1) := by decide +kernel
theorem d_Jg_work_12 : decode prog_6_method_16_code 12 = .ok (.iaload, 1) := by decide +kernel
theorem d_Jg_work_13 : decode prog_6_method_16_code 13 = .ok (.istore 4, 2) := by decide +kernel
theorem d_Jg_work_15 : decode prog_6_method_16_code 15 = .ok (.iload 4, 2) := by decide +kernel
theorem d_Jg_work_17 : decode prog_6_method_16_code 17 = .ok (.ifCond .lt (27), 3) := by decide +kernel
theorem d_Jg_work_20 : decode prog_6_method_16_code 20 = .ok (.iload_n 2, 1) := by decide +kernel
theorem d_Jg_work_21 : decode prog_6_method_16_code 21 = .ok (.bipush (40), 2) := by decide +kernel
theorem d_Jg_work_23 : decode prog_6_method_16_code 23 = .ok (.if_icmp .ge (21), 3) := by decide +kernel
theorem d_Jg_work_26 : decode prog_6_method_16_code 26 = .ok (.aload_n 0, 1) := by decide +kernel
theorem d_Jg_work_27 : decode prog_6_method_16_code 27 = .ok (.getfield 33, 3) := by decide +kernel
theorem d_Jg_work_30 : decode prog_6_method_16_code 30 = .ok (.iload_n 2, 1) := by decide +kernel
theorem d_Jg_work_31 : decode prog_6_method_16_code 31 = .ok (.aload_n 0, 1) := by decide +kernel
theorem d_Jg_work_32 : decode prog_6_method_16_code 32 = .ok (.iload 4, 2) := by decide +kernel
theorem d_Jg_work_34 : decode prog_6_method_16_code 34 = .ok (.invokevirtual 157, 3) := by decide +kernel
theorem d_Jg_work_37 : decode prog_6_method_16_code 37 = .ok (.iastore, 1) := by decide +kernel
theorem d_Jg_work_38 : decode prog_6_method_16_code 38 = .ok (.iinc 2 (1), 3) := by decide +kernel
theorem d_Jg_work_41 : decode prog_6_method_16_code 41 = .ok (.goto (92), 3) := by decide +kernel
theorem d_Jg_work_44 : decode prog_6_method_16_code 44 = .ok (.iload 4, 2) := by decide +kernel
theorem d_Jg_work_46 : decode prog_6_method_16_code 46 = .ok (.ifCond .ge (87), 3) := by decide +kernel
theorem d_Jg_work_49 : decode prog_6_method_16_code 49 = .ok (.iload_n 2, 1) := by decide +kernel
theorem d_Jg_work_50 : decode prog_6_method_16_code 50 = .ok (.iconst 2, 1) := by decide +kernel
theorem d_Jg_work_51 : decode prog_6_method_16_code 51 = .ok (.if_icmp .lt (82), 3) := by decide +kernel
theorem d_Jg_work_54 : decode prog_6_method_16_code 54 = .ok (.aload_n 0, 1) := by decide +kernel
theorem d_Jg_work_55 : decode prog_6_method_16_code 55 = .ok (.getfield 33, 3) := by decide +kernel
theorem d_Jg_work_58 : decode prog_6_method_16_code 58 = .ok (.iload_n 2, 1) := by decide +kernel
theorem d_Jg_work_59 : decode prog_6_method_16_code 59 = .ok (.iconst 2, 1) := by decide +kernel
theorem d_Jg_work_60 : decode prog_6_method_16_code 60 = .ok (.isub, 1) := by decide +kernel
theorem d_Jg_work_61 : decode prog_6_method_16_code 61 = .ok (.iaload, 1) := by decide +kernel
theorem d_Jg_work_62 : decode prog_6_method_16_code 62 = .ok (.istore 5, 2) := by decide +kernel
theorem d_Jg_work_64 : decode prog_6_method_16_code 64 = .ok (.aload_n 0, 1) := by decide +kernel
theorem d_Jg_work_65 : decode prog_6_method_16_code 65 = .ok (.getfield 33, 3) := by decide +kernel
theorem d_Jg_work_68 : decode prog_6_method_16_code 68 = .ok (.iload_n 2, 1) := by decide +kernel
theorem d_Jg_work_69 : decode prog_6_method_16_code 69 = .ok (.iconst 1, 1) := by decide +kernel
theorem d_Jg_work_70 : decode prog_6_method_16_code 70 = .ok (.isub, 1) := by decide +kernel
theorem d_Jg_work_71 : decode prog_6_method_16_code 71 = .ok (.iaload, 1) := by decide +kernel
theorem d_Jg_work_72 : decode prog_6_method_16_code 72 = .ok (.istore 6, 2) := by decide +kernel
theorem d_Jg_work_74 : decode prog_6_method_16_code 74 = .ok (.iinc 2 (-2), 3) := by decide +kernel
theorem d_Jg_work_77 : decode prog_6_method_16_code 77 = .ok (.iload 4, 2) := by decide +kernel
theorem d_Jg_work_79 : decode prog_6_method_16_code 79 = .ok (.ineg, 1) := by decide +kernel
theorem d_Jg_work_80 : decode prog_6_method_16_code 80 = .ok (.invokestatic 173, 3) := by decide +kernel
theorem d_Jg_work_83 : decode prog_6_method_16_code 83 = .ok (.ifCond .eq (18), 3) := by decide +kernel
theorem d_Jg_work_86 : decode prog_6_method_16_code 86 = .ok (.iload 4, 2) := by decide +kernel
theorem d_Jg_work_88 : decode prog_6_method_16_code 88 = .ok (.ineg, 1) := by decide +kernel
theorem d_Jg_work_89 : decode prog_6_method_16_code 89 = .ok (.iload 5, 2) := by decide +kernel
theorem d_Jg_work_91 : decode prog_6_method_16_code 91 = .ok (.iload 6, 2) := by decide +kernel
theorem d_Jg_work_93 : decode prog_6_method_16_code 93 = .ok (.invokestatic 177, 3) := by decide +kernel
theorem d_Jg_work_96 : decode prog_6_method_16_code 96 = .ok (.ifCond .ne (37), 3) := by decide +kernel
theorem d_Jg_work_99 : decode prog_6_method_16_code 99 = .ok (.iconst 0, 1) := by decide +kernel
theorem d_Jg_work_100 : decode prog_6_method_16_code 100 = .ok (.ireturn, 1) := by decide +kernel
theorem d_Jg_work_101 : decode prog_6_method_16_code 101 = .ok (.iload 4, 2) := by decide +kernel
theorem d_Jg_work_103 : decode prog_6_method_16_code 103 = .ok (.ineg, 1) := by decide +kernel
theorem d_Jg_work_104 : decode prog_6_method_16_code 104 = .ok (.iload 5, 2) := by decide +kernel
theorem d_Jg_work_106 : decode prog_6_method_16_code 106 = .ok (.iload 6, 2) := by decide +kernel
theorem d_Jg_work_108 : decode prog_6_method_16_code 108 = .ok (.invokestatic 181, 3) := by decide +kernel
theorem d_Jg_work_111 : decode prog_6_method_16_code 111 = .ok (.istore 7, 2) := by decide +kernel
theorem d_Jg_work_113 : decode prog_6_method_16_code 113 = .ok (.iload 7, 2) := by decide +kernel
theorem d_Jg_work_115 : decode prog_6_method_16_code 115 = .ok (.ldc 184, 2) := by decide +kernel
theorem d_Jg_work_117 : decode prog_6_method_16_code 117 = .ok (.if_icmp .ne (5), 3) := by decide +kernel
theorem d_Jg_work_120 : decode prog_6_method_16_code 120 = .ok (.iconst (-1), 1) := by decide +kernel
theorem d_Jg_work_121 : decode prog_6_method_16_code 121 = .ok (.ireturn, 1) := by decide +kernel
theorem d_Jg_work_122 : decode prog_6_method_16_code 122 = .ok (.aload_n 0, 1) := by decide +kernel
theorem d_Jg_work_123 : decode prog_6_method_16_code 123 = .ok (.getfield 33, 3) := by decide +kernel
theorem d_Jg_work_126 : decode prog_6_method_16_code 126 = .ok (.iload_n 2, 1) := by decide +kernel
theorem d_Jg_work_127 : decode prog_6_method_16_code 127 = .ok (.iload 7, 2) := by decide +kernel
theorem d_Jg_work_129 : decode prog_6_method_16_code 129 = .ok (.iastore, 1) := by decide +kernel
theorem d_Jg_work_130 : decode prog_6_method_16_code 130 = .ok (.iinc 2 (1), 3) := by decide +kernel
theorem d_Jg_work_133 : decode prog_6_method_16_code 133 = .ok (.iinc 3 (1), 3) := by decide +kernel
theorem d_Jg_work_136 : decode prog_6_method_16_code 136 = .ok (.goto (-132), 3) := by decide +kernel
theorem d_Jg_work_139 : decode prog_6_method_16_code 139 = .ok (.iconst 1, 1) := by decide +kernel
theorem d_Jg_work_140 : decode prog_6_method_16_code 140 = .ok (.ireturn, 1) := by decide +kernel
