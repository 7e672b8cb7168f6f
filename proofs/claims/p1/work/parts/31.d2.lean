theorem d_GC_issue_0 : decode prog_1_method_7_code 0 = .ok (.iload_n 1, 1) := by decide +kernel
theorem d_GC_issue_1 : decode prog_1_method_7_code 1 = .ok (.invokestatic 101, 3) := by decide +kernel
theorem d_GC_issue_4 : decode prog_1_method_7_code 4 = .ok (.ifCond .ne (11), 3) := by decide +kernel
theorem d_GC_issue_7 : decode prog_1_method_7_code 7 = .ok (.new 71, 3) := by decide +kernel
theorem d_GC_issue_10 : decode prog_1_method_7_code 10 = .ok (.dup, 1) := by decide +kernel
theorem d_GC_issue_11 : decode prog_1_method_7_code 11 = .ok (.invokespecial 73, 3) := by decide +kernel
theorem d_GC_issue_14 : decode prog_1_method_7_code 14 = .ok (.athrow, 1) := by decide +kernel
theorem d_GC_issue_15 : decode prog_1_method_7_code 15 = .ok (.aload_n 0, 1) := by decide +kernel
theorem d_GC_issue_16 : decode prog_1_method_7_code 16 = .ok (.getfield 44, 3) := by decide +kernel
theorem d_GC_issue_19 : decode prog_1_method_7_code 19 = .ok (.invokeinterface 85 1, 5) := by decide +kernel
theorem d_GC_issue_24 : decode prog_1_method_7_code 24 = .ok (.bipush (16), 2) := by decide +kernel
theorem d_GC_issue_26 : decode prog_1_method_7_code 26 = .ok (.if_icmp .lt (11), 3) := by decide +kernel
theorem d_GC_issue_29 : decode prog_1_method_7_code 29 = .ok (.new 91, 3) := by decide +kernel
theorem d_GC_issue_32 : decode prog_1_method_7_code 32 = .ok (.dup, 1) := by decide +kernel
theorem d_GC_issue_33 : decode prog_1_method_7_code 33 = .ok (.invokespecial 93, 3) := by decide +kernel
theorem d_GC_issue_36 : decode prog_1_method_7_code 36 = .ok (.athrow, 1) := by decide +kernel
theorem d_GC_issue_37 : decode prog_1_method_7_code 37 = .ok (.aload_n 0, 1) := by decide +kernel
theorem d_GC_issue_38 : decode prog_1_method_7_code 38 = .ok (.new 105, 3) := by decide +kernel
theorem d_GC_issue_41 : decode prog_1_method_7_code 41 = .ok (.dup, 1) := by decide +kernel
theorem d_GC_issue_42 : decode prog_1_method_7_code 42 = .ok (.invokespecial 107, 3) := by decide +kernel
theorem d_GC_issue_45 : decode prog_1_method_7_code 45 = .ok (.iload_n 1, 1) := by decide +kernel
theorem d_GC_issue_46 : decode prog_1_method_7_code 46 = .ok (.invokevirtual 108, 3) := by decide +kernel
theorem d_GC_issue_49 : decode prog_1_method_7_code 49 = .ok (.ireturn, 1) := by decide +kernel
theorem d_GC_isRoot_0 : decode prog_1_method_18_code 0 = .ok (.iload_n 0, 1) := by decide +kernel
theorem d_GC_isRoot_1 : decode prog_1_method_18_code 1 = .ok (.iconst 1, 1) := by decide +kernel
theorem d_GC_isRoot_2 : decode prog_1_method_18_code 2 = .ok (.if_icmp .lt (12), 3) := by decide +kernel
theorem d_GC_isRoot_5 : decode prog_1_method_18_code 5 = .ok (.iload_n 0, 1) := by decide +kernel
theorem d_GC_isRoot_6 : decode prog_1_method_18_code 6 = .ok (.iconst 3, 1) := by decide +kernel
theorem d_GC_isRoot_7 : decode prog_1_method_18_code 7 = .ok (.if_icmp .gt (7), 3) := by decide +kernel
theorem d_GC_isRoot_10 : decode prog_1_method_18_code 10 = .ok (.iconst 1, 1) := by decide +kernel
theorem d_GC_isRoot_11 : decode prog_1_method_18_code 11 = .ok (.goto (4), 3) := by decide +kernel
theorem d_GC_isRoot_14 : decode prog_1_method_18_code 14 = .ok (.iconst 0, 1) := by decide +kernel
theorem d_GC_isRoot_15 : decode prog_1_method_18_code 15 = .ok (.ireturn, 1) := by decide +kernel
theorem d_Tk_init_0 : decode prog_10_method_1_code 0 = .ok (.aload_n 0, 1) := by decide +kernel
theorem d_Tk_init_1 : decode prog_10_method_1_code 1 = .ok (.invokespecial 1, 3) := by decide +kernel
theorem d_Tk_init_4 : decode prog_10_method_1_code 4 = .ok (.aload_n 0, 1) := by decide +kernel
theorem d_Tk_init_5 : decode prog_10_method_1_code 5 = .ok (.new 7, 3) := by decide +kernel
theorem d_Tk_init_8 : decode prog_10_method_1_code 8 = .ok (.dup, 1) := by decide +kernel
theorem d_Tk_init_9 : decode prog_10_method_1_code 9 = .ok (.invokespecial 9, 3) := by decide +kernel
theorem d_Tk_init_12 : decode prog_10_method_1_code 12 = .ok (.putfield 10, 3) := by decide +kernel
theorem d_Tk_init_15 : decode prog_10_method_1_code 15 = .ok (.return_, 1) := by decide +kernel
theorem d_GC_keepWithNewLink_0 : decode prog_1_method_23_code 0 = .ok (.aload_n 0, 1) := by decide +kernel
theorem d_GC_keepWithNewLink_1 : decode prog_1_method_23_code 1 = .ok (.getfield 40, 3) := by decide +kernel
theorem d_GC_keepWithNewLink_4 : decode prog_1_method_23_code 4 = .ok (.aload_n 0, 1) := by decide +kernel
theorem d_GC_keepWithNewLink_5 : decode prog_1_method_23_code 5 = .ok (.getfield 47, 3) := by decide +kernel
theorem d_GC_keepWithNewLink_8 : decode prog_1_method_23_code 8 = .ok (.invokeinterface 224 2, 5) := by decide +kernel
theorem d_GC_keepWithNewLink_13 : decode prog_1_method_23_code 13 = .ok (.pop, 1) := by decide +kernel
theorem d_GC_keepWithNewLink_14 : decode prog_1_method_23_code 14 = .ok (.aload_n 0, 1) := by decide +kernel
theorem d_GC_keepWithNewLink_15 : decode prog_1_method_23_code 15 = .ok (.new 30, 3) := by decide +kernel
theorem d_GC_keepWithNewLink_18 : decode prog_1_method_23_code 18 = .ok (.dup, 1) := by decide +kernel
theorem d_GC_keepWithNewLink_19 : decode prog_1_method_23_code 19 = .ok (.invokespecial 32, 3) := by decide +kernel
theorem d_GC_keepWithNewLink_22 : decode prog_1_method_23_code 22 = .ok (.putfield 47, 3) := by decide +kernel
theorem d_GC_keepWithNewLink_25 : decode prog_1_method_23_code 25 = .ok (.aload_n 0, 1) := by decide +kernel
theorem d_GC_keepWithNewLink_26 : decode prog_1_method_23_code 26 = .ok (.getfield 40, 3) := by decide +kernel
theorem d_GC_keepWithNewLink_29 : decode prog_1_method_23_code 29 = .ok (.invokeinterface 85 1, 5) := by decide +kernel
theorem d_GC_keepWithNewLink_34 : decode prog_1_method_23_code 34 = .ok (.istore_n 3, 1) := by decide +kernel
theorem d_GC_keepWithNewLink_35 : decode prog_1_method_23_code 35 = .ok (.aload_n 0, 1) := by decide +kernel
theorem d_GC_keepWithNewLink_36 : decode prog_1_method_23_code 36 = .ok (.invokevirtual 170, 3) := by decide +kernel
theorem d_GC_keepWithNewLink_39 : decode prog_1_method_23_code 39 = .ok (.istore 4, 2) := by decide +kernel
theorem d_GC_keepWithNewLink_41 : decode prog_1_method_23_code 41 = .ok (.aload_n 1, 1) := by decide +kernel
theorem d_GC_keepWithNewLink_42 : decode prog_1_method_23_code 42 = .ok (.getfield 126, 3) := by decide +kernel
theorem d_GC_keepWithNewLink_45 : decode prog_1_method_23_code 45 = .ok (.new 158, 3) := by decide +kernel
theorem d_GC_keepWithNewLink_48 : decode prog_1_method_23_code 48 = .ok (.dup, 1) := by decide +kernel
theorem d_GC_keepWithNewLink_49 : decode prog_1_method_23_code 49 = .ok (.iload_n 3, 1) := by decide +kernel
theorem d_GC_keepWithNewLink_50 : decode prog_1_method_23_code 50 = .ok (.iload 4, 2) := by decide +kernel
theorem d_GC_keepWithNewLink_52 : decode prog_1_method_23_code 52 = .ok (.iload_n 2, 1) := by decide +kernel
theorem d_GC_keepWithNewLink_53 : decode prog_1_method_23_code 53 = .ok (.iload_n 3, 1) := by decide +kernel
theorem d_GC_keepWithNewLink_54 : decode prog_1_method_23_code 54 = .ok (.iload 4, 2) := by decide +kernel
theorem d_GC_keepWithNewLink_56 : decode prog_1_method_23_code 56 = .ok (.invokespecial 228, 3) := by decide +kernel
theorem d_GC_keepWithNewLink_59 : decode prog_1_method_23_code 59 = .ok (.invokeinterface 224 2, 5) := by decide +kernel
theorem d_GC_keepWithNewLink_64 : decode prog_1_method_23_code 64 = .ok (.pop, 1) := by decide +kernel
theorem d_GC_keepWithNewLink_65 : decode prog_1_method_23_code 65 = .ok (.aload_n 1, 1) := by decide +kernel
theorem d_GC_keepWithNewLink_66 : decode prog_1_method_23_code 66 = .ok (.iload 4, 2) := by decide +kernel
theorem d_GC_keepWithNewLink_68 : decode prog_1_method_23_code 68 = .ok (.invokevirtual 173, 3) := by decide +kernel
theorem d_GC_keepWithNewLink_71 : decode prog_1_method_23_code 71 = .ok (.aload_n 0, 1) := by decide +kernel
theorem d_GC_keepWithNewLink_72 : decode prog_1_method_23_code 72 = .ok (.aload_n 1, 1) := by decide +kernel
theorem d_GC_keepWithNewLink_73 : decode prog_1_method_23_code 73 = .ok (.invokevirtual 139, 3) := by decide +kernel
theorem d_GC_keepWithNewLink_76 : decode prog_1_method_23_code 76 = .ok (.ireturn, 1) := by decide +kernel
theorem d_GC_newKey_0 : decode prog_1_method_22_code 0 = .ok (.aload_n 0, 1) := by decide +kernel
theorem d_GC_newKey_1 : decode prog_1_method_22_code 1 = .ok (.dup, 1) := by decide +kernel
theorem d_GC_newKey_2 : decode prog_1_method_22_code 2 = .ok (.getfield 50, 3) := by decide +kernel
theorem d_GC_newKey_5 : decode prog_1_method_22_code 5 = .ok (.iconst 1, 1) := by decide +kernel
theorem d_GC_newKey_6 : decode prog_1_method_22_code 6 = .ok (.iadd, 1) := by decide +kernel
theorem d_GC_newKey_7 : decode prog_1_method_22_code 7 = .ok (.putfield 50, 3) := by decide +kernel
theorem d_GC_newKey_10 : decode prog_1_method_22_code 10 = .ok (.aload_n 0, 1) := by decide +kernel
theorem d_GC_newKey_11 : decode prog_1_method_22_code 11 = .ok (.getfield 50, 3) := by decide +kernel
theorem d_GC_newKey_14 : decode prog_1_method_22_code 14 = .ok (.ireturn, 1) := by decide +kernel
theorem d_Lk_init_0 : decode prog_8_method_1_code 0 = .ok (.aload_n 0, 1) := by decide +kernel
theorem d_Lk_init_1 : decode prog_8_method_1_code 1 = .ok (.invokespecial 1, 3) := by decide +kernel
theorem d_Lk_init_4 : decode prog_8_method_1_code 4 = .ok (.aload_n 0, 1) := by decide +kernel
theorem d_Lk_init_5 : decode prog_8_method_1_code 5 = .ok (.iload_n 1, 1) := by decide +kernel
theorem d_Lk_init_6 : decode prog_8_method_1_code 6 = .ok (.putfield 7, 3) := by decide +kernel
theorem d_Lk_init_9 : decode prog_8_method_1_code 9 = .ok (.aload_n 0, 1) := by decide +kernel
theorem d_Lk_init_10 : decode prog_8_method_1_code 10 = .ok (.iload_n 2, 1) := by decide +kernel
theorem d_Lk_init_11 : decode prog_8_method_1_code 11 = .ok (.putfield 13, 3) := by decide +kernel
theorem d_Lk_init_14 : decode prog_8_method_1_code 14 = .ok (.aload_n 0, 1) := by decide +kernel
theorem d_Lk_init_15 : decode prog_8_method_1_code 15 = .ok (.iload_n 3, 1) := by decide +kernel
theorem d_Lk_init_16 : decode prog_8_method_1_code 16 = .ok (.putfield 16, 3) := by decide +kernel
theorem d_Lk_init_19 : decode prog_8_method_1_code 19 = .ok (.aload_n 0, 1) := by decide +kernel
theorem d_Lk_init_20 : decode prog_8_method_1_code 20 = .ok (.iload 4, 2) := by decide +kernel
theorem d_Lk_init_22 : decode prog_8_method_1_code 22 = .ok (.putfield 19, 3) := by decide +kernel
theorem d_Lk_init_25 : decode prog_8_method_1_code 25 = .ok (.aload_n 0, 1) := by decide +kernel
theorem d_Lk_init_26 : decode prog_8_method_1_code 26 = .ok (.iload 5, 2) := by decide +kernel
theorem d_Lk_init_28 : decode prog_8_method_1_code 28 = .ok (.putfield 22, 3) := by decide +kernel
theorem d_Lk_init_31 : decode prog_8_method_1_code 31 = .ok (.return_, 1) := by decide +kernel
theorem d_Tk_openWith_0 : decode prog_10_method_3_code 0 = .ok (.aload_n 0, 1) := by decide +kernel
theorem d_Tk_openWith_1 : decode prog_10_method_3_code 1 = .ok (.iconst 0, 1) := by decide +kernel
theorem d_Tk_openWith_2 : decode prog_10_method_3_code 2 = .ok (.putfield 33, 3) := by decide +kernel
theorem d_Tk_openWith_5 : decode prog_10_method_3_code 5 = .ok (.aload_n 0, 1) := by decide +kernel
theorem d_Tk_openWith_6 : decode prog_10_method_3_code 6 = .ok (.iload_n 1, 1) := by decide +kernel
theorem d_Tk_openWith_7 : decode prog_10_method_3_code 7 = .ok (.putfield 37, 3) := by decide +kernel
theorem d_Tk_openWith_10 : decode prog_10_method_3_code 10 = .ok (.return_, 1) := by decide +kernel
theorem d_GC_keep_0 : decode prog_1_method_24_code 0 = .ok (.aload_n 0, 1) := by decide +kernel
theorem d_GC_keep_1 : decode prog_1_method_24_code 1 = .ok (.getfield 44, 3) := by decide +kernel
theorem d_GC_keep_4 : decode prog_1_method_24_code 4 = .ok (.aload_n 1, 1) := by decide +kernel
theorem d_GC_keep_5 : decode prog_1_method_24_code 5 = .ok (.invokeinterface 224 2, 5) := by decide +kernel
theorem d_GC_keep_10 : decode prog_1_method_24_code 10 = .ok (.pop, 1) := by decide +kernel
theorem d_GC_keep_11 : decode prog_1_method_24_code 11 = .ok (.aload_n 0, 1) := by decide +kernel
theorem d_GC_keep_12 : decode prog_1_method_24_code 12 = .ok (.getfield 44, 3) := by decide +kernel
theorem d_GC_keep_15 : decode prog_1_method_24_code 15 = .ok (.invokeinterface 85 1, 5) := by decide +kernel
theorem d_GC_keep_20 : decode prog_1_method_24_code 20 = .ok (.iconst 1, 1) := by decide +kernel
theorem d_GC_keep_21 : decode prog_1_method_24_code 21 = .ok (.isub, 1) := by decide +kernel
theorem d_GC_keep_22 : decode prog_1_method_24_code 22 = .ok (.ireturn, 1) := by decide +kernel
theorem d_Lw_append_0 : decode method_6_code 0 = .ok (.aload_n 2, 1) := by decide +kernel
theorem d_Lw_append_1 : decode method_6_code 1 = .ok (.iconst 0, 1) := by decide +kernel
theorem d_Lw_append_2 : decode method_6_code 2 = .ok (.aload_n 0, 1) := by decide +kernel
theorem d_Lw_append_3 : decode method_6_code 3 = .ok (.iload_n 1, 1) := by decide +kernel
theorem d_Lw_append_4 : decode method_6_code 4 = .ok (.invokevirtual 26, 3) := by decide +kernel
theorem d_Lw_append_7 : decode method_6_code 7 = .ok (.i2l, 1) := by decide +kernel
theorem d_Lw_append_8 : decode method_6_code 8 = .ok (.lastore, 1) := by decide +kernel
theorem d_Lw_append_9 : decode method_6_code 9 = .ok (.goto (9), 3) := by decide +kernel
theorem d_Lw_append_12 : decode method_6_code 12 = .ok (.astore_n 3, 1) := by decide +kernel
theorem d_Lw_append_13 : decode method_6_code 13 = .ok (.iconst 1, 1) := by decide +kernel
theorem d_Lw_append_14 : decode method_6_code 14 = .ok (.ireturn, 1) := by decide +kernel
theorem d_Lw_append_15 : decode method_6_code 15 = .ok (.astore_n 3, 1) := by decide +kernel
theorem d_Lw_append_16 : decode method_6_code 16 = .ok (.iconst 2, 1) := by decide +kernel
theorem d_Lw_append_17 : decode method_6_code 17 = .ok (.ireturn, 1) := by decide +kernel
theorem d_Lw_append_18 : decode method_6_code 18 = .ok (.iconst 0, 1) := by decide +kernel
theorem d_Lw_append_19 : decode method_6_code 19 = .ok (.ireturn, 1) := by decide +kernel
theorem d_GC_append_0 : decode prog_1_method_8_code 0 = .ok (.aload_n 0, 1) := by decide +kernel
theorem d_GC_append_1 : decode prog_1_method_8_code 1 = .ok (.iload_n 1, 1) := by decide +kernel
theorem d_GC_append_2 : decode prog_1_method_8_code 2 = .ok (.invokevirtual 112, 3) := by decide +kernel
theorem d_GC_append_5 : decode prog_1_method_8_code 5 = .ok (.ifCond .ne (11), 3) := by decide +kernel
theorem d_GC_append_8 : decode prog_1_method_8_code 8 = .ok (.new 115, 3) := by decide +kernel
theorem d_GC_append_11 : decode prog_1_method_8_code 11 = .ok (.dup, 1) := by decide +kernel
theorem d_GC_append_12 : decode prog_1_method_8_code 12 = .ok (.invokespecial 117, 3) := by decide +kernel
theorem d_GC_append_15 : decode prog_1_method_8_code 15 = .ok (.athrow, 1) := by decide +kernel
theorem d_GC_append_16 : decode prog_1_method_8_code 16 = .ok (.aload_n 0, 1) := by decide +kernel
theorem d_GC_append_17 : decode prog_1_method_8_code 17 = .ok (.getfield 44, 3) := by decide +kernel
theorem d_GC_append_20 : decode prog_1_method_8_code 20 = .ok (.iload_n 1, 1) := by decide +kernel
theorem d_GC_append_21 : decode prog_1_method_8_code 21 = .ok (.invokeinterface 118 2, 5) := by decide +kernel
theorem d_GC_append_26 : decode prog_1_method_8_code 26 = .ok (.checkcast 105, 3) := by decide +kernel
theorem d_GC_append_29 : decode prog_1_method_8_code 29 = .ok (.astore_n 2, 1) := by decide +kernel
theorem d_GC_append_30 : decode prog_1_method_8_code 30 = .ok (.aload_n 2, 1) := by decide +kernel
theorem d_GC_append_31 : decode prog_1_method_8_code 31 = .ok (.getfield 122, 3) := by decide +kernel
theorem d_GC_append_34 : decode prog_1_method_8_code 34 = .ok (.ifCond .ne (30), 3) := by decide +kernel
theorem d_GC_append_37 : decode prog_1_method_8_code 37 = .ok (.aload_n 2, 1) := by decide +kernel
theorem d_GC_append_38 : decode prog_1_method_8_code 38 = .ok (.getfield 126, 3) := by decide +kernel
theorem d_GC_append_41 : decode prog_1_method_8_code 41 = .ok (.invokeinterface 85 1, 5) := by decide +kernel
theorem d_GC_append_46 : decode prog_1_method_8_code 46 = .ok (.iconst 4, 1) := by decide +kernel
theorem d_GC_append_47 : decode prog_1_method_8_code 47 = .ok (.if_icmp .ge (17), 3) := by decide +kernel
theorem d_GC_append_50 : decode prog_1_method_8_code 50 = .ok (.aload_n 0, 1) := by decide +kernel
theorem d_GC_append_51 : decode prog_1_method_8_code 51 = .ok (.getfield 44, 3) := by decide +kernel
theorem d_GC_append_54 : decode prog_1_method_8_code 54 = .ok (.invokeinterface 85 1, 5) := by decide +kernel
theorem d_GC_append_59 : decode prog_1_method_8_code 59 = .ok (.bipush (16), 2) := by decide +kernel
theorem d_GC_append_61 : decode prog_1_method_8_code 61 = .ok (.if_icmp .lt (11), 3) := by decide +kernel
theorem d_GC_append_64 : decode prog_1_method_8_code 64 = .ok (.new 91, 3) := by decide +kernel
theorem d_GC_append_67 : decode prog_1_method_8_code 67 = .ok (.dup, 1) := by decide +kernel
theorem d_GC_append_68 : decode prog_1_method_8_code 68 = .ok (.invokespecial 93, 3) := by decide +kernel
theorem d_GC_append_71 : decode prog_1_method_8_code 71 = .ok (.athrow, 1) := by decide +kernel
theorem d_GC_append_72 : decode prog_1_method_8_code 72 = .ok (.aload_n 0, 1) := by decide +kernel
theorem d_GC_append_73 : decode prog_1_method_8_code 73 = .ok (.aload_n 2, 1) := by decide +kernel
theorem d_GC_append_74 : decode prog_1_method_8_code 74 = .ok (.invokevirtual 129, 3) := by decide +kernel
theorem d_GC_append_77 : decode prog_1_method_8_code 77 = .ok (.aload_n 2, 1) := by decide +kernel
theorem d_GC_append_78 : decode prog_1_method_8_code 78 = .ok (.getfield 133, 3) := by decide +kernel
theorem d_GC_append_81 : decode prog_1_method_8_code 81 = .ok (.invokevirtual 108, 3) := by decide +kernel
theorem d_GC_append_84 : decode prog_1_method_8_code 84 = .ok (.ireturn, 1) := by decide +kernel
theorem d_GC_isToken_0 : decode prog_1_method_17_code 0 = .ok (.iload_n 1, 1) := by decide +kernel
theorem d_GC_isToken_1 : decode prog_1_method_17_code 1 = .ok (.ifCond .lt (20), 3) := by decide +kernel
theorem d_GC_isToken_4 : decode prog_1_method_17_code 4 = .ok (.iload_n 1, 1) := by decide +kernel
theorem d_GC_isToken_5 : decode prog_1_method_17_code 5 = .ok (.aload_n 0, 1) := by decide +kernel
theorem d_GC_isToken_6 : decode prog_1_method_17_code 6 = .ok (.getfield 44, 3) := by decide +kernel
theorem d_GC_isToken_9 : decode prog_1_method_17_code 9 = .ok (.invokeinterface 85 1, 5) := by decide +kernel
theorem d_GC_isToken_14 : decode prog_1_method_17_code 14 = .ok (.if_icmp .ge (7), 3) := by decide +kernel
theorem d_GC_isToken_17 : decode prog_1_method_17_code 17 = .ok (.iconst 1, 1) := by decide +kernel
theorem d_GC_isToken_18 : decode prog_1_method_17_code 18 = .ok (.goto (4), 3) := by decide +kernel
theorem d_GC_isToken_21 : decode prog_1_method_17_code 21 = .ok (.iconst 0, 1) := by decide +kernel
theorem d_GC_isToken_22 : decode prog_1_method_17_code 22 = .ok (.ireturn, 1) := by decide +kernel
theorem d_AL_get_0 : decode prog_27_method_20_code 0 = .ok (.iload_n 1, 1) := by decide +kernel
theorem d_AL_get_1 : decode prog_27_method_20_code 1 = .ok (.aload_n 0, 1) := by decide +kernel
theorem d_AL_get_2 : decode prog_27_method_20_code 2 = .ok (.getfield 48, 3) := by decide +kernel
theorem d_AL_get_5 : decode prog_27_method_20_code 5 = .ok (.invokestatic 118, 3) := by decide +kernel
theorem d_AL_get_8 : decode prog_27_method_20_code 8 = .ok (.pop, 1) := by decide +kernel
theorem d_AL_get_9 : decode prog_27_method_20_code 9 = .ok (.aload_n 0, 1) := by decide +kernel
theorem d_AL_get_10 : decode prog_27_method_20_code 10 = .ok (.iload_n 1, 1) := by decide +kernel
theorem d_AL_get_11 : decode prog_27_method_20_code 11 = .ok (.invokevirtual 123, 3) := by decide +kernel
theorem d_AL_get_14 : decode prog_27_method_20_code 14 = .ok (.areturn, 1) := by decide +kernel
theorem d_Ob_checkIndex_0 : decode prog_31_method_17_code 0 = .ok (.iload_n 0, 1) := by decide +kernel
theorem d_Ob_checkIndex_1 : decode prog_31_method_17_code 1 = .ok (.iload_n 1, 1) := by decide +kernel
theorem d_Ob_checkIndex_2 : decode prog_31_method_17_code 2 = .ok (.aconst_null, 1) := by decide +kernel
theorem d_Ob_checkIndex_3 : decode prog_31_method_17_code 3 = .ok (.invokestatic 105, 3) := by decide +kernel
theorem d_Ob_checkIndex_6 : decode prog_31_method_17_code 6 = .ok (.ireturn, 1) := by decide +kernel
theorem d_Pr_checkIndex_0 : decode prog_35_method_11_code 0 = .ok (.iload_n 0, 1) := by decide +kernel
theorem d_Pr_checkIndex_1 : decode prog_35_method_11_code 1 = .ok (.ifCond .lt (8), 3) := by decide +kernel
theorem d_Pr_checkIndex_4 : decode prog_35_method_11_code 4 = .ok (.iload_n 0, 1) := by decide +kernel
theorem d_Pr_checkIndex_5 : decode prog_35_method_11_code 5 = .ok (.iload_n 1, 1) := by decide +kernel
theorem d_Pr_checkIndex_6 : decode prog_35_method_11_code 6 = .ok (.if_icmp .lt (10), 3) := by decide +kernel
theorem d_Pr_checkIndex_9 : decode prog_35_method_11_code 9 = .ok (.aload_n 2, 1) := by decide +kernel
theorem d_Pr_checkIndex_10 : decode prog_35_method_11_code 10 = .ok (.iload_n 0, 1) := by decide +kernel
theorem d_Pr_checkIndex_11 : decode prog_35_method_11_code 11 = .ok (.iload_n 1, 1) := by decide +kernel
theorem d_Pr_checkIndex_12 : decode prog_35_method_11_code 12 = .ok (.invokestatic 95, 3) := by decide +kernel
theorem d_Pr_checkIndex_15 : decode prog_35_method_11_code 15 = .ok (.athrow, 1) := by decide +kernel
theorem d_Pr_checkIndex_16 : decode prog_35_method_11_code 16 = .ok (.iload_n 0, 1) := by decide +kernel
theorem d_Pr_checkIndex_17 : decode prog_35_method_11_code 17 = .ok (.ireturn, 1) := by decide +kernel
theorem d_AL_elementData_0 : decode prog_27_method_18_code 0 = .ok (.aload_n 0, 1) := by decide +kernel
theorem d_AL_elementData_1 : decode prog_27_method_18_code 1 = .ok (.getfield 9, 3) := by decide +kernel
theorem d_AL_elementData_4 : decode prog_27_method_18_code 4 = .ok (.iload_n 1, 1) := by decide +kernel
theorem d_AL_elementData_5 : decode prog_27_method_18_code 5 = .ok (.aaload, 1) := by decide +kernel
theorem d_AL_elementData_6 : decode prog_27_method_18_code 6 = .ok (.areturn, 1) := by decide +kernel
theorem d_Tk_copy_0 : decode prog_10_method_2_code 0 = .ok (.new 11, 3) := by decide +kernel
theorem d_Tk_copy_3 : decode prog_10_method_2_code 3 = .ok (.dup, 1) := by decide +kernel
theorem d_Tk_copy_4 : decode prog_10_method_2_code 4 = .ok (.invokespecial 16, 3) := by decide +kernel
theorem d_Tk_copy_7 : decode prog_10_method_2_code 7 = .ok (.astore_n 1, 1) := by decide +kernel
theorem d_Tk_copy_8 : decode prog_10_method_2_code 8 = .ok (.iconst 0, 1) := by decide +kernel
theorem d_Tk_copy_9 : decode prog_10_method_2_code 9 = .ok (.istore_n 2, 1) := by decide +kernel
theorem d_Tk_copy_10 : decode prog_10_method_2_code 10 = .ok (.iload_n 2, 1) := by decide +kernel
theorem d_Tk_copy_11 : decode prog_10_method_2_code 11 = .ok (.aload_n 0, 1) := by decide +kernel
theorem d_Tk_copy_12 : decode prog_10_method_2_code 12 = .ok (.getfield 10, 3) := by decide +kernel
theorem d_Tk_copy_15 : decode prog_10_method_2_code 15 = .ok (.invokeinterface 17 1, 5) := by decide +kernel
theorem d_Tk_copy_20 : decode prog_10_method_2_code 20 = .ok (.if_icmp .ge (32), 3) := by decide +kernel
theorem d_Tk_copy_23 : decode prog_10_method_2_code 23 = .ok (.aload_n 1, 1) := by decide +kernel
theorem d_Tk_copy_24 : decode prog_10_method_2_code 24 = .ok (.getfield 10, 3) := by decide +kernel
theorem d_Tk_copy_27 : decode prog_10_method_2_code 27 = .ok (.aload_n 0, 1) := by decide +kernel
theorem d_Tk_copy_28 : decode prog_10_method_2_code 28 = .ok (.getfield 10, 3) := by decide +kernel
theorem d_Tk_copy_31 : decode prog_10_method_2_code 31 = .ok (.iload_n 2, 1) := by decide +kernel
theorem d_Tk_copy_32 : decode prog_10_method_2_code 32 = .ok (.invokeinterface 23 2, 5) := by decide +kernel
theorem d_Tk_copy_37 : decode prog_10_method_2_code 37 = .ok (.checkcast 27, 3) := by decide +kernel
theorem d_Tk_copy_40 : decode prog_10_method_2_code 40 = .ok (.invokeinterface 29 2, 5) := by decide +kernel
theorem d_Tk_copy_45 : decode prog_10_method_2_code 45 = .ok (.pop, 1) := by decide +kernel
theorem d_Tk_copy_46 : decode prog_10_method_2_code 46 = .ok (.iinc 2 (1), 3) := by decide +kernel
theorem d_Tk_copy_49 : decode prog_10_method_2_code 49 = .ok (.goto (-39), 3) := by decide +kernel
theorem d_Tk_copy_52 : decode prog_10_method_2_code 52 = .ok (.aload_n 1, 1) := by decide +kernel
theorem d_Tk_copy_53 : decode prog_10_method_2_code 53 = .ok (.aload_n 0, 1) := by decide +kernel
theorem d_Tk_copy_54 : decode prog_10_method_2_code 54 = .ok (.getfield 33, 3) := by decide +kernel
theorem d_Tk_copy_57 : decode prog_10_method_2_code 57 = .ok (.putfield 33, 3) := by decide +kernel
theorem d_Tk_copy_60 : decode prog_10_method_2_code 60 = .ok (.aload_n 1, 1) := by decide +kernel
theorem d_Tk_copy_61 : decode prog_10_method_2_code 61 = .ok (.aload_n 0, 1) := by decide +kernel
theorem d_Tk_copy_62 : decode prog_10_method_2_code 62 = .ok (.getfield 37, 3) := by decide +kernel
theorem d_Tk_copy_65 : decode prog_10_method_2_code 65 = .ok (.putfield 37, 3) := by decide +kernel
theorem d_Tk_copy_68 : decode prog_10_method_2_code 68 = .ok (.aload_n 1, 1) := by decide +kernel
theorem d_Tk_copy_69 : decode prog_10_method_2_code 69 = .ok (.aload_n 0, 1) := by decide +kernel
theorem d_Tk_copy_70 : decode prog_10_method_2_code 70 = .ok (.getfield 41, 3) := by decide +kernel
theorem d_Tk_copy_73 : decode prog_10_method_2_code 73 = .ok (.putfield 41, 3) := by decide +kernel
theorem d_Tk_copy_76 : decode prog_10_method_2_code 76 = .ok (.aload_n 1, 1) := by decide +kernel
theorem d_Tk_copy_77 : decode prog_10_method_2_code 77 = .ok (.areturn, 1) := by decide +kernel
theorem d_Lw_seal_0 : decode method_7_code 0 = .ok (.aload_n 2, 1) := by decide +kernel
theorem d_Lw_seal_1 : decode method_7_code 1 = .ok (.iconst 0, 1) := by decide +kernel
theorem d_Lw_seal_2 : decode method_7_code 2 = .ok (.aload_n 0, 1) := by decide +kernel
theorem d_Lw_seal_3 : decode method_7_code 3 = .ok (.iload_n 1, 1) := by decide +kernel
theorem d_Lw_seal_4 : decode method_7_code 4 = .ok (.invokevirtual 31, 3) := by decide +kernel
theorem d_Lw_seal_7 : decode method_7_code 7 = .ok (.i2l, 1) := by decide +kernel
theorem d_Lw_seal_8 : decode method_7_code 8 = .ok (.lastore, 1) := by decide +kernel
theorem d_Lw_seal_9 : decode method_7_code 9 = .ok (.goto (9), 3) := by decide +kernel
theorem d_Lw_seal_12 : decode method_7_code 12 = .ok (.astore_n 3, 1) := by decide +kernel
theorem d_Lw_seal_13 : decode method_7_code 13 = .ok (.iconst 1, 1) := by decide +kernel
theorem d_Lw_seal_14 : decode method_7_code 14 = .ok (.ireturn, 1) := by decide +kernel
theorem d_Lw_seal_15 : decode method_7_code 15 = .ok (.astore_n 3, 1) := by decide +kernel
theorem d_Lw_seal_16 : decode method_7_code 16 = .ok (.iconst 2, 1) := by decide +kernel
theorem d_Lw_seal_17 : decode method_7_code 17 = .ok (.ireturn, 1) := by decide +kernel
theorem d_Lw_seal_18 : decode method_7_code 18 = .ok (.iconst 0, 1) := by decide +kernel
theorem d_Lw_seal_19 : decode method_7_code 19 = .ok (.ireturn, 1) := by decide +kernel
theorem d_GC_seal_0 : decode prog_1_method_9_code 0 = .ok (.aload_n 0, 1) := by decide +kernel
theorem d_GC_seal_1 : decode prog_1_method_9_code 1 = .ok (.iload_n 1, 1) := by decide +kernel
theorem d_GC_seal_2 : decode prog_1_method_9_code 2 = .ok (.invokevirtual 112, 3) := by decide +kernel
theorem d_GC_seal_5 : decode prog_1_method_9_code 5 = .ok (.ifCond .ne (11), 3) := by decide +kernel
theorem d_GC_seal_8 : decode prog_1_method_9_code 8 = .ok (.new 115, 3) := by decide +kernel
theorem d_GC_seal_11 : decode prog_1_method_9_code 11 = .ok (.dup, 1) := by decide +kernel
theorem d_GC_seal_12 : decode prog_1_method_9_code 12 = .ok (.invokespecial 117, 3) := by decide +kernel
theorem d_GC_seal_15 : decode prog_1_method_9_code 15 = .ok (.athrow, 1) := by decide +kernel
theorem d_GC_seal_16 : decode prog_1_method_9_code 16 = .ok (.aload_n 0, 1) := by decide +kernel
theorem d_GC_seal_17 : decode prog_1_method_9_code 17 = .ok (.getfield 44, 3) := by decide +kernel
theorem d_GC_seal_20 : decode prog_1_method_9_code 20 = .ok (.iload_n 1, 1) := by decide +kernel
theorem d_GC_seal_21 : decode prog_1_method_9_code 21 = .ok (.invokeinterface 118 2, 5) := by decide +kernel
theorem d_GC_seal_26 : decode prog_1_method_9_code 26 = .ok (.checkcast 105, 3) := by decide +kernel
theorem d_GC_seal_29 : decode prog_1_method_9_code 29 = .ok (.astore_n 2, 1) := by decide +kernel
theorem d_GC_seal_30 : decode prog_1_method_9_code 30 = .ok (.aload_n 2, 1) := by decide +kernel
theorem d_GC_seal_31 : decode prog_1_method_9_code 31 = .ok (.getfield 122, 3) := by decide +kernel
theorem d_GC_seal_34 : decode prog_1_method_9_code 34 = .ok (.ifCond .ne (17), 3) := by decide +kernel
theorem d_GC_seal_37 : decode prog_1_method_9_code 37 = .ok (.aload_n 0, 1) := by decide +kernel
theorem d_GC_seal_38 : decode prog_1_method_9_code 38 = .ok (.getfield 44, 3) := by decide +kernel
theorem d_GC_seal_41 : decode prog_1_method_9_code 41 = .ok (.invokeinterface 85 1, 5) := by decide +kernel
theorem d_GC_seal_46 : decode prog_1_method_9_code 46 = .ok (.bipush (16), 2) := by decide +kernel
theorem d_GC_seal_48 : decode prog_1_method_9_code 48 = .ok (.if_icmp .lt (11), 3) := by decide +kernel
theorem d_GC_seal_51 : decode prog_1_method_9_code 51 = .ok (.new 91, 3) := by decide +kernel
theorem d_GC_seal_54 : decode prog_1_method_9_code 54 = .ok (.dup, 1) := by decide +kernel
theorem d_GC_seal_55 : decode prog_1_method_9_code 55 = .ok (.invokespecial 93, 3) := by decide +kernel
theorem d_GC_seal_58 : decode prog_1_method_9_code 58 = .ok (.athrow, 1) := by decide +kernel
theorem d_GC_seal_59 : decode prog_1_method_9_code 59 = .ok (.aload_n 2, 1) := by decide +kernel
theorem d_GC_seal_60 : decode prog_1_method_9_code 60 = .ok (.invokevirtual 129, 3) := by decide +kernel
theorem d_GC_seal_63 : decode prog_1_method_9_code 63 = .ok (.astore_n 3, 1) := by decide +kernel
theorem d_GC_seal_64 : decode prog_1_method_9_code 64 = .ok (.aload_n 3, 1) := by decide +kernel
theorem d_GC_seal_65 : decode prog_1_method_9_code 65 = .ok (.iconst 1, 1) := by decide +kernel
theorem d_GC_seal_66 : decode prog_1_method_9_code 66 = .ok (.putfield 122, 3) := by decide +kernel
theorem d_GC_seal_69 : decode prog_1_method_9_code 69 = .ok (.aload_n 3, 1) := by decide +kernel
theorem d_GC_seal_70 : decode prog_1_method_9_code 70 = .ok (.aload_n 3, 1) := by decide +kernel
theorem d_GC_seal_71 : decode prog_1_method_9_code 71 = .ok (.getfield 126, 3) := by decide +kernel
theorem d_GC_seal_74 : decode prog_1_method_9_code 74 = .ok (.invokeinterface 85 1, 5) := by decide +kernel
theorem d_GC_seal_79 : decode prog_1_method_9_code 79 = .ok (.putfield 136, 3) := by decide +kernel
theorem d_GC_seal_82 : decode prog_1_method_9_code 82 = .ok (.aload_n 0, 1) := by decide +kernel
theorem d_GC_seal_83 : decode prog_1_method_9_code 83 = .ok (.aload_n 3, 1) := by decide +kernel
theorem d_GC_seal_84 : decode prog_1_method_9_code 84 = .ok (.invokevirtual 139, 3) := by decide +kernel
theorem d_GC_seal_87 : decode prog_1_method_9_code 87 = .ok (.ireturn, 1) := by decide +kernel
theorem d_Lw_tamper_0 : decode method_8_code 0 = .ok (.aload 5, 2) := by decide +kernel
theorem d_Lw_tamper_2 : decode method_8_code 2 = .ok (.iconst 0, 1) := by decide +kernel
theorem d_Lw_tamper_3 : decode method_8_code 3 = .ok (.aload_n 0, 1) := by decide +kernel
theorem d_Lw_tamper_4 : decode method_8_code 4 = .ok (.iload_n 1, 1) := by decide +kernel
theorem d_Lw_tamper_5 : decode method_8_code 5 = .ok (.iload_n 2, 1) := by decide +kernel
theorem d_Lw_tamper_6 : decode method_8_code 6 = .ok (.iload_n 3, 1) := by decide +kernel
theorem d_Lw_tamper_7 : decode method_8_code 7 = .ok (.iload 4, 2) := by decide +kernel
theorem d_Lw_tamper_9 : decode method_8_code 9 = .ok (.invokevirtual 34, 3) := by decide +kernel
theorem d_Lw_tamper_12 : decode method_8_code 12 = .ok (.i2l, 1) := by decide +kernel
theorem d_Lw_tamper_13 : decode method_8_code 13 = .ok (.lastore, 1) := by decide +kernel
theorem d_Lw_tamper_14 : decode method_8_code 14 = .ok (.goto (11), 3) := by decide +kernel
theorem d_Lw_tamper_17 : decode method_8_code 17 = .ok (.astore 6, 2) := by decide +kernel
theorem d_Lw_tamper_19 : decode method_8_code 19 = .ok (.iconst 1, 1) := by decide +kernel
theorem d_Lw_tamper_20 : decode method_8_code 20 = .ok (.ireturn, 1) := by decide +kernel
theorem d_Lw_tamper_21 : decode method_8_code 21 = .ok (.astore 6, 2) := by decide +kernel
theorem d_Lw_tamper_23 : decode method_8_code 23 = .ok (.iconst 2, 1) := by decide +kernel
theorem d_Lw_tamper_24 : decode method_8_code 24 = .ok (.ireturn, 1) := by decide +kernel
theorem d_Lw_tamper_25 : decode method_8_code 25 = .ok (.iconst 0, 1) := by decide +kernel
theorem d_Lw_tamper_26 : decode method_8_code 26 = .ok (.ireturn, 1) := by decide +kernel
theorem d_GC_tamper_0 : decode prog_1_method_10_code 0 = .ok (.aload_n 0, 1) := by decide +kernel
theorem d_GC_tamper_1 : decode prog_1_method_10_code 1 = .ok (.iload_n 1, 1) := by decide +kernel
theorem d_GC_tamper_2 : decode prog_1_method_10_code 2 = .ok (.invokevirtual 112, 3) := by decide +kernel
theorem d_GC_tamper_5 : decode prog_1_method_10_code 5 = .ok (.ifCond .eq (34), 3) := by decide +kernel
theorem d_GC_tamper_8 : decode prog_1_method_10_code 8 = .ok (.aload_n 0, 1) := by decide +kernel
theorem d_GC_tamper_9 : decode prog_1_method_10_code 9 = .ok (.getfield 44, 3) := by decide +kernel
theorem d_GC_tamper_12 : decode prog_1_method_10_code 12 = .ok (.iload_n 1, 1) := by decide +kernel
theorem d_GC_tamper_13 : decode prog_1_method_10_code 13 = .ok (.invokeinterface 118 2, 5) := by decide +kernel
theorem d_GC_tamper_18 : decode prog_1_method_10_code 18 = .ok (.checkcast 105, 3) := by decide +kernel
theorem d_GC_tamper_21 : decode prog_1_method_10_code 21 = .ok (.getfield 126, 3) := by decide +kernel
theorem d_GC_tamper_24 : decode prog_1_method_10_code 24 = .ok (.invokeinterface 85 1, 5) := by decide +kernel
theorem d_GC_tamper_29 : decode prog_1_method_10_code 29 = .ok (.iload_n 2, 1) := by decide +kernel
theorem d_GC_tamper_30 : decode prog_1_method_10_code 30 = .ok (.iload_n 3, 1) := by decide +kernel
theorem d_GC_tamper_31 : decode prog_1_method_10_code 31 = .ok (.iload 4, 2) := by decide +kernel
theorem d_GC_tamper_33 : decode prog_1_method_10_code 33 = .ok (.invokestatic 143, 3) := by decide +kernel
theorem d_GC_tamper_36 : decode prog_1_method_10_code 36 = .ok (.ifCond .ne (11), 3) := by decide +kernel
theorem d_GC_tamper_39 : decode prog_1_method_10_code 39 = .ok (.new 115, 3) := by decide +kernel
theorem d_GC_tamper_42 : decode prog_1_method_10_code 42 = .ok (.dup, 1) := by decide +kernel
theorem d_GC_tamper_43 : decode prog_1_method_10_code 43 = .ok (.invokespecial 117, 3) := by decide +kernel
theorem d_GC_tamper_46 : decode prog_1_method_10_code 46 = .ok (.athrow, 1) := by decide +kernel
theorem d_GC_tamper_47 : decode prog_1_method_10_code 47 = .ok (.aload_n 0, 1) := by decide +kernel
theorem d_GC_tamper_48 : decode prog_1_method_10_code 48 = .ok (.getfield 44, 3) := by decide +kernel
theorem d_GC_tamper_51 : decode prog_1_method_10_code 51 = .ok (.iload_n 1, 1) := by decide +kernel
theorem d_GC_tamper_52 : decode prog_1_method_10_code 52 = .ok (.invokeinterface 118 2, 5) := by decide +kernel
theorem d_GC_tamper_57 : decode prog_1_method_10_code 57 = .ok (.checkcast 105, 3) := by decide +kernel
theorem d_GC_tamper_60 : decode prog_1_method_10_code 60 = .ok (.astore 5, 2) := by decide +kernel
theorem d_GC_tamper_62 : decode prog_1_method_10_code 62 = .ok (.aload_n 0, 1) := by decide +kernel
theorem d_GC_tamper_63 : decode prog_1_method_10_code 63 = .ok (.getfield 44, 3) := by decide +kernel
theorem d_GC_tamper_66 : decode prog_1_method_10_code 66 = .ok (.invokeinterface 85 1, 5) := by decide +kernel
theorem d_GC_tamper_71 : decode prog_1_method_10_code 71 = .ok (.bipush (16), 2) := by decide +kernel
theorem d_GC_tamper_73 : decode prog_1_method_10_code 73 = .ok (.if_icmp .ge (17), 3) := by decide +kernel
theorem d_GC_tamper_76 : decode prog_1_method_10_code 76 = .ok (.iload_n 2, 1) := by decide +kernel
theorem d_GC_tamper_77 : decode prog_1_method_10_code 77 = .ok (.bipush (6), 2) := by decide +kernel
theorem d_GC_tamper_79 : decode prog_1_method_10_code 79 = .ok (.if_icmp .ne (19), 3) := by decide +kernel
theorem d_GC_tamper_82 : decode prog_1_method_10_code 82 = .ok (.aload 5, 2) := by decide +kernel
theorem d_GC_tamper_84 : decode prog_1_method_10_code 84 = .ok (.getfield 122, 3) := by decide +kernel
theorem d_GC_tamper_87 : decode prog_1_method_10_code 87 = .ok (.ifCond .eq (11), 3) := by decide +kernel
theorem d_GC_tamper_90 : decode prog_1_method_10_code 90 = .ok (.new 91, 3) := by decide +kernel
theorem d_GC_tamper_93 : decode prog_1_method_10_code 93 = .ok (.dup, 1) := by decide +kernel
theorem d_GC_tamper_94 : decode prog_1_method_10_code 94 = .ok (.invokespecial 93, 3) := by decide +kernel
theorem d_GC_tamper_97 : decode prog_1_method_10_code 97 = .ok (.athrow, 1) := by decide +kernel
theorem d_GC_tamper_98 : decode prog_1_method_10_code 98 = .ok (.aload 5, 2) := by decide +kernel
theorem d_GC_tamper_100 : decode prog_1_method_10_code 100 = .ok (.invokevirtual 129, 3) := by decide +kernel
theorem d_GC_tamper_103 : decode prog_1_method_10_code 103 = .ok (.astore 6, 2) := by decide +kernel
theorem d_GC_tamper_105 : decode prog_1_method_10_code 105 = .ok (.iload_n 2, 1) := by decide +kernel
theorem d_GC_tamper_106 : decode prog_1_method_10_code 106 = .ok (.tableswitch 192 (0) 5 #[38, 58, 69, 80, 115, 145], 38) := by decide +kernel
theorem d_GC_tamper_144 : decode prog_1_method_10_code 144 = .ok (.aload 6, 2) := by decide +kernel
theorem d_GC_tamper_146 : decode prog_1_method_10_code 146 = .ok (.aload 6, 2) := by decide +kernel
theorem d_GC_tamper_148 : decode prog_1_method_10_code 148 = .ok (.getfield 126, 3) := by decide +kernel
theorem d_GC_tamper_151 : decode prog_1_method_10_code 151 = .ok (.invokeinterface 85 1, 5) := by decide +kernel
theorem d_GC_tamper_156 : decode prog_1_method_10_code 156 = .ok (.iconst 1, 1) := by decide +kernel
theorem d_GC_tamper_157 : decode prog_1_method_10_code 157 = .ok (.isub, 1) := by decide +kernel
theorem d_GC_tamper_158 : decode prog_1_method_10_code 158 = .ok (.invokevirtual 147, 3) := by decide +kernel
theorem d_GC_tamper_161 : decode prog_1_method_10_code 161 = .ok (.goto (143), 3) := by decide +kernel
theorem d_GC_tamper_164 : decode prog_1_method_10_code 164 = .ok (.aload 6, 2) := by decide +kernel
theorem d_GC_tamper_166 : decode prog_1_method_10_code 166 = .ok (.iload_n 3, 1) := by decide +kernel
theorem d_GC_tamper_167 : decode prog_1_method_10_code 167 = .ok (.iload 4, 2) := by decide +kernel
theorem d_GC_tamper_169 : decode prog_1_method_10_code 169 = .ok (.invokevirtual 151, 3) := by decide +kernel
theorem d_GC_tamper_172 : decode prog_1_method_10_code 172 = .ok (.goto (132), 3) := by decide +kernel
theorem d_GC_tamper_175 : decode prog_1_method_10_code 175 = .ok (.aload 6, 2) := by decide +kernel
theorem d_GC_tamper_177 : decode prog_1_method_10_code 177 = .ok (.iload_n 3, 1) := by decide +kernel
theorem d_GC_tamper_178 : decode prog_1_method_10_code 178 = .ok (.iload 4, 2) := by decide +kernel
theorem d_GC_tamper_180 : decode prog_1_method_10_code 180 = .ok (.invokevirtual 155, 3) := by decide +kernel
theorem d_GC_tamper_183 : decode prog_1_method_10_code 183 = .ok (.goto (121), 3) := by decide +kernel
theorem d_GC_tamper_186 : decode prog_1_method_10_code 186 = .ok (.aload 6, 2) := by decide +kernel
theorem d_GC_tamper_188 : decode prog_1_method_10_code 188 = .ok (.iload_n 3, 1) := by decide +kernel
theorem d_GC_tamper_189 : decode prog_1_method_10_code 189 = .ok (.aload_n 0, 1) := by decide +kernel
theorem d_GC_tamper_190 : decode prog_1_method_10_code 190 = .ok (.getfield 40, 3) := by decide +kernel
theorem d_GC_tamper_193 : decode prog_1_method_10_code 193 = .ok (.invokeinterface 85 1, 5) := by decide +kernel
theorem d_GC_tamper_198 : decode prog_1_method_10_code 198 = .ok (.aload 6, 2) := by decide +kernel
theorem d_GC_tamper_200 : decode prog_1_method_10_code 200 = .ok (.getfield 126, 3) := by decide +kernel
theorem d_GC_tamper_203 : decode prog_1_method_10_code 203 = .ok (.iload_n 3, 1) := by decide +kernel
theorem d_GC_tamper_204 : decode prog_1_method_10_code 204 = .ok (.invokeinterface 118 2, 5) := by decide +kernel
theorem d_GC_tamper_209 : decode prog_1_method_10_code 209 = .ok (.checkcast 158, 3) := by decide +kernel
theorem d_GC_tamper_212 : decode prog_1_method_10_code 212 = .ok (.getfield 160, 3) := by decide +kernel
theorem d_GC_tamper_215 : decode prog_1_method_10_code 215 = .ok (.invokevirtual 163, 3) := by decide +kernel
theorem d_GC_tamper_218 : decode prog_1_method_10_code 218 = .ok (.goto (86), 3) := by decide +kernel
theorem d_GC_tamper_221 : decode prog_1_method_10_code 221 = .ok (.aload 6, 2) := by decide +kernel
theorem d_GC_tamper_223 : decode prog_1_method_10_code 223 = .ok (.iload_n 3, 1) := by decide +kernel
theorem d_GC_tamper_224 : decode prog_1_method_10_code 224 = .ok (.aload 6, 2) := by decide +kernel
theorem d_GC_tamper_226 : decode prog_1_method_10_code 226 = .ok (.getfield 126, 3) := by decide +kernel
theorem d_GC_tamper_229 : decode prog_1_method_10_code 229 = .ok (.iload_n 3, 1) := by decide +kernel
theorem d_GC_tamper_230 : decode prog_1_method_10_code 230 = .ok (.invokeinterface 118 2, 5) := by decide +kernel
theorem d_GC_tamper_235 : decode prog_1_method_10_code 235 = .ok (.checkcast 158, 3) := by decide +kernel
theorem d_GC_tamper_238 : decode prog_1_method_10_code 238 = .ok (.getfield 167, 3) := by decide +kernel
theorem d_GC_tamper_241 : decode prog_1_method_10_code 241 = .ok (.aload_n 0, 1) := by decide +kernel
theorem d_GC_tamper_242 : decode prog_1_method_10_code 242 = .ok (.invokevirtual 170, 3) := by decide +kernel
theorem d_GC_tamper_245 : decode prog_1_method_10_code 245 = .ok (.invokevirtual 163, 3) := by decide +kernel
theorem d_GC_tamper_248 : decode prog_1_method_10_code 248 = .ok (.goto (56), 3) := by decide +kernel
theorem d_GC_tamper_251 : decode prog_1_method_10_code 251 = .ok (.aload 6, 2) := by decide +kernel
theorem d_GC_tamper_253 : decode prog_1_method_10_code 253 = .ok (.iload_n 3, 1) := by decide +kernel
theorem d_GC_tamper_254 : decode prog_1_method_10_code 254 = .ok (.aload 6, 2) := by decide +kernel
theorem d_GC_tamper_256 : decode prog_1_method_10_code 256 = .ok (.getfield 126, 3) := by decide +kernel
theorem d_GC_tamper_259 : decode prog_1_method_10_code 259 = .ok (.iload_n 3, 1) := by decide +kernel
theorem d_GC_tamper_260 : decode prog_1_method_10_code 260 = .ok (.invokeinterface 118 2, 5) := by decide +kernel
theorem d_GC_tamper_265 : decode prog_1_method_10_code 265 = .ok (.checkcast 158, 3) := by decide +kernel
theorem d_GC_tamper_268 : decode prog_1_method_10_code 268 = .ok (.getfield 167, 3) := by decide +kernel
theorem d_GC_tamper_271 : decode prog_1_method_10_code 271 = .ok (.aload_n 0, 1) := by decide +kernel
theorem d_GC_tamper_272 : decode prog_1_method_10_code 272 = .ok (.invokevirtual 170, 3) := by decide +kernel
theorem d_GC_tamper_275 : decode prog_1_method_10_code 275 = .ok (.invokevirtual 163, 3) := by decide +kernel
theorem d_GC_tamper_278 : decode prog_1_method_10_code 278 = .ok (.aload 6, 2) := by decide +kernel
theorem d_GC_tamper_280 : decode prog_1_method_10_code 280 = .ok (.iload_n 3, 1) := by decide +kernel
theorem d_GC_tamper_281 : decode prog_1_method_10_code 281 = .ok (.iconst 1, 1) := by decide +kernel
theorem d_GC_tamper_282 : decode prog_1_method_10_code 282 = .ok (.iadd, 1) := by decide +kernel
theorem d_GC_tamper_283 : decode prog_1_method_10_code 283 = .ok (.invokevirtual 147, 3) := by decide +kernel
theorem d_GC_tamper_286 : decode prog_1_method_10_code 286 = .ok (.aload 6, 2) := by decide +kernel
theorem d_GC_tamper_288 : decode prog_1_method_10_code 288 = .ok (.aload_n 0, 1) := by decide +kernel
theorem d_GC_tamper_289 : decode prog_1_method_10_code 289 = .ok (.getfield 50, 3) := by decide +kernel
theorem d_GC_tamper_292 : decode prog_1_method_10_code 292 = .ok (.invokevirtual 173, 3) := by decide +kernel
theorem d_GC_tamper_295 : decode prog_1_method_10_code 295 = .ok (.goto (9), 3) := by decide +kernel
theorem d_GC_tamper_298 : decode prog_1_method_10_code 298 = .ok (.aload 6, 2) := by decide +kernel
theorem d_GC_tamper_300 : decode prog_1_method_10_code 300 = .ok (.iload_n 3, 1) := by decide +kernel
theorem d_GC_tamper_301 : decode prog_1_method_10_code 301 = .ok (.invokevirtual 176, 3) := by decide +kernel
theorem d_GC_tamper_304 : decode prog_1_method_10_code 304 = .ok (.aload_n 0, 1) := by decide +kernel
theorem d_GC_tamper_305 : decode prog_1_method_10_code 305 = .ok (.aload 6, 2) := by decide +kernel
theorem d_GC_tamper_307 : decode prog_1_method_10_code 307 = .ok (.invokevirtual 139, 3) := by decide +kernel
theorem d_GC_tamper_310 : decode prog_1_method_10_code 310 = .ok (.ireturn, 1) := by decide +kernel
theorem d_GC_canTamper_0 : decode prog_1_method_19_code 0 = .ok (.iload_n 1, 1) := by decide +kernel
theorem d_GC_canTamper_1 : decode prog_1_method_19_code 1 = .ok (.ifCond .ne (14), 3) := by decide +kernel
theorem d_GC_canTamper_4 : decode prog_1_method_19_code 4 = .ok (.iload_n 0, 1) := by decide +kernel
theorem d_GC_canTamper_5 : decode prog_1_method_19_code 5 = .ok (.iconst 1, 1) := by decide +kernel
theorem d_GC_canTamper_6 : decode prog_1_method_19_code 6 = .ok (.if_icmp .le (7), 3) := by decide +kernel
theorem d_GC_canTamper_9 : decode prog_1_method_19_code 9 = .ok (.iconst 1, 1) := by decide +kernel
theorem d_GC_canTamper_10 : decode prog_1_method_19_code 10 = .ok (.goto (4), 3) := by decide +kernel
theorem d_GC_canTamper_13 : decode prog_1_method_19_code 13 = .ok (.iconst 0, 1) := by decide +kernel
theorem d_GC_canTamper_14 : decode prog_1_method_19_code 14 = .ok (.ireturn, 1) := by decide +kernel
theorem d_GC_canTamper_15 : decode prog_1_method_19_code 15 = .ok (.iload_n 1, 1) := by decide +kernel
theorem d_GC_canTamper_16 : decode prog_1_method_19_code 16 = .ok (.iconst 1, 1) := by decide +kernel
theorem d_GC_canTamper_17 : decode prog_1_method_19_code 17 = .ok (.if_icmp .eq (8), 3) := by decide +kernel
theorem d_GC_canTamper_20 : decode prog_1_method_19_code 20 = .ok (.iload_n 1, 1) := by decide +kernel
theorem d_GC_canTamper_21 : decode prog_1_method_19_code 21 = .ok (.iconst 2, 1) := by decide +kernel
theorem d_GC_canTamper_22 : decode prog_1_method_19_code 22 = .ok (.if_icmp .ne (7), 3) := by decide +kernel
theorem d_GC_canTamper_25 : decode prog_1_method_19_code 25 = .ok (.iconst 1, 1) := by decide +kernel
theorem d_GC_canTamper_26 : decode prog_1_method_19_code 26 = .ok (.goto (4), 3) := by decide +kernel
theorem d_GC_canTamper_29 : decode prog_1_method_19_code 29 = .ok (.iconst 0, 1) := by decide +kernel
theorem d_GC_canTamper_30 : decode prog_1_method_19_code 30 = .ok (.istore 4, 2) := by decide +kernel
theorem d_GC_canTamper_32 : decode prog_1_method_19_code 32 = .ok (.iload_n 1, 1) := by decide +kernel
theorem d_GC_canTamper_33 : decode prog_1_method_19_code 33 = .ok (.ifCond .le (36), 3) := by decide +kernel
theorem d_GC_canTamper_36 : decode prog_1_method_19_code 36 = .ok (.iload_n 1, 1) := by decide +kernel
theorem d_GC_canTamper_37 : decode prog_1_method_19_code 37 = .ok (.bipush (6), 2) := by decide +kernel
theorem d_GC_canTamper_39 : decode prog_1_method_19_code 39 = .ok (.if_icmp .gt (30), 3) := by decide +kernel
theorem d_GC_canTamper_42 : decode prog_1_method_19_code 42 = .ok (.iload_n 2, 1) := by decide +kernel
theorem d_GC_canTamper_43 : decode prog_1_method_19_code 43 = .ok (.ifCond .lt (26), 3) := by decide +kernel
theorem d_GC_canTamper_46 : decode prog_1_method_19_code 46 = .ok (.iload_n 2, 1) := by decide +kernel
theorem d_GC_canTamper_47 : decode prog_1_method_19_code 47 = .ok (.iload_n 0, 1) := by decide +kernel
theorem d_GC_canTamper_48 : decode prog_1_method_19_code 48 = .ok (.if_icmp .ge (21), 3) := by decide +kernel
theorem d_GC_canTamper_51 : decode prog_1_method_19_code 51 = .ok (.iload 4, 2) := by decide +kernel
theorem d_GC_canTamper_53 : decode prog_1_method_19_code 53 = .ok (.ifCond .eq (12), 3) := by decide +kernel
theorem d_GC_canTamper_56 : decode prog_1_method_19_code 56 = .ok (.iload_n 3, 1) := by decide +kernel
theorem d_GC_canTamper_57 : decode prog_1_method_19_code 57 = .ok (.ifCond .lt (12), 3) := by decide +kernel
theorem d_GC_canTamper_60 : decode prog_1_method_19_code 60 = .ok (.iload_n 3, 1) := by decide +kernel
theorem d_GC_canTamper_61 : decode prog_1_method_19_code 61 = .ok (.iload_n 0, 1) := by decide +kernel
theorem d_GC_canTamper_62 : decode prog_1_method_19_code 62 = .ok (.if_icmp .ge (7), 3) := by decide +kernel
theorem d_GC_canTamper_65 : decode prog_1_method_19_code 65 = .ok (.iconst 1, 1) := by decide +kernel
theorem d_GC_canTamper_66 : decode prog_1_method_19_code 66 = .ok (.goto (4), 3) := by decide +kernel
theorem d_GC_canTamper_69 : decode prog_1_method_19_code 69 = .ok (.iconst 0, 1) := by decide +kernel
theorem d_GC_canTamper_70 : decode prog_1_method_19_code 70 = .ok (.ireturn, 1) := by decide +kernel
theorem d_Tk_cutTo_0 : decode prog_10_method_4_code 0 = .ok (.aload_n 0, 1) := by decide +kernel
theorem d_Tk_cutTo_1 : decode prog_10_method_4_code 1 = .ok (.getfield 10, 3) := by decide +kernel
theorem d_Tk_cutTo_4 : decode prog_10_method_4_code 4 = .ok (.invokeinterface 17 1, 5) := by decide +kernel
theorem d_Tk_cutTo_9 : decode prog_10_method_4_code 9 = .ok (.iconst 1, 1) := by decide +kernel
theorem d_Tk_cutTo_10 : decode prog_10_method_4_code 10 = .ok (.isub, 1) := by decide +kernel
theorem d_Tk_cutTo_11 : decode prog_10_method_4_code 11 = .ok (.istore_n 2, 1) := by decide +kernel
theorem d_Tk_cutTo_12 : decode prog_10_method_4_code 12 = .ok (.iload_n 2, 1) := by decide +kernel
theorem d_Tk_cutTo_13 : decode prog_10_method_4_code 13 = .ok (.iload_n 1, 1) := by decide +kernel
theorem d_Tk_cutTo_14 : decode prog_10_method_4_code 14 = .ok (.if_icmp .lt (20), 3) := by decide +kernel
theorem d_Tk_cutTo_17 : decode prog_10_method_4_code 17 = .ok (.aload_n 0, 1) := by decide +kernel
theorem d_Tk_cutTo_18 : decode prog_10_method_4_code 18 = .ok (.getfield 10, 3) := by decide +kernel
theorem d_Tk_cutTo_21 : decode prog_10_method_4_code 21 = .ok (.iload_n 2, 1) := by decide +kernel
theorem d_Tk_cutTo_22 : decode prog_10_method_4_code 22 = .ok (.invokeinterface 44 2, 5) := by decide +kernel
theorem d_Tk_cutTo_27 : decode prog_10_method_4_code 27 = .ok (.pop, 1) := by decide +kernel
theorem d_Tk_cutTo_28 : decode prog_10_method_4_code 28 = .ok (.iinc 2 (-1), 3) := by decide +kernel
theorem d_Tk_cutTo_31 : decode prog_10_method_4_code 31 = .ok (.goto (-19), 3) := by decide +kernel
theorem d_Tk_cutTo_34 : decode prog_10_method_4_code 34 = .ok (.return_, 1) := by decide +kernel
theorem d_AL_remove_0 : decode prog_27_method_29_code 0 = .ok (.iload_n 1, 1) := by decide +kernel
theorem d_AL_remove_1 : decode prog_27_method_29_code 1 = .ok (.aload_n 0, 1) := by decide +kernel
theorem d_AL_remove_2 : decode prog_27_method_29_code 2 = .ok (.getfield 48, 3) := by decide +kernel
theorem d_AL_remove_5 : decode prog_27_method_29_code 5 = .ok (.invokestatic 118, 3) := by decide +kernel
theorem d_AL_remove_8 : decode prog_27_method_29_code 8 = .ok (.pop, 1) := by decide +kernel
theorem d_AL_remove_9 : decode prog_27_method_29_code 9 = .ok (.aload_n 0, 1) := by decide +kernel
theorem d_AL_remove_10 : decode prog_27_method_29_code 10 = .ok (.getfield 9, 3) := by decide +kernel
theorem d_AL_remove_13 : decode prog_27_method_29_code 13 = .ok (.astore_n 2, 1) := by decide +kernel
theorem d_AL_remove_14 : decode prog_27_method_29_code 14 = .ok (.aload_n 2, 1) := by decide +kernel
theorem d_AL_remove_15 : decode prog_27_method_29_code 15 = .ok (.iload_n 1, 1) := by decide +kernel
theorem d_AL_remove_16 : decode prog_27_method_29_code 16 = .ok (.aaload, 1) := by decide +kernel
theorem d_AL_remove_17 : decode prog_27_method_29_code 17 = .ok (.astore_n 3, 1) := by decide +kernel
theorem d_AL_remove_18 : decode prog_27_method_29_code 18 = .ok (.aload_n 0, 1) := by decide +kernel
theorem d_AL_remove_19 : decode prog_27_method_29_code 19 = .ok (.aload_n 2, 1) := by decide +kernel
theorem d_AL_remove_20 : decode prog_27_method_29_code 20 = .ok (.iload_n 1, 1) := by decide +kernel
theorem d_AL_remove_21 : decode prog_27_method_29_code 21 = .ok (.invokevirtual 144, 3) := by decide +kernel
theorem d_AL_remove_24 : decode prog_27_method_29_code 24 = .ok (.aload_n 3, 1) := by decide +kernel
theorem d_AL_remove_25 : decode prog_27_method_29_code 25 = .ok (.areturn, 1) := by decide +kernel
theorem d_AL_fastRemove_0 : decode prog_27_method_39_code 0 = .ok (.aload_n 0, 1) := by decide +kernel
theorem d_AL_fastRemove_1 : decode prog_27_method_39_code 1 = .ok (.dup, 1) := by decide +kernel
theorem d_AL_fastRemove_2 : decode prog_27_method_39_code 2 = .ok (.getfield 63, 3) := by decide +kernel
theorem d_AL_fastRemove_5 : decode prog_27_method_39_code 5 = .ok (.iconst 1, 1) := by decide +kernel
theorem d_AL_fastRemove_6 : decode prog_27_method_39_code 6 = .ok (.iadd, 1) := by decide +kernel
theorem d_AL_fastRemove_7 : decode prog_27_method_39_code 7 = .ok (.putfield 63, 3) := by decide +kernel
theorem d_AL_fastRemove_10 : decode prog_27_method_39_code 10 = .ok (.aload_n 0, 1) := by decide +kernel
theorem d_AL_fastRemove_11 : decode prog_27_method_39_code 11 = .ok (.getfield 48, 3) := by decide +kernel
theorem d_AL_fastRemove_14 : decode prog_27_method_39_code 14 = .ok (.iconst 1, 1) := by decide +kernel
theorem d_AL_fastRemove_15 : decode prog_27_method_39_code 15 = .ok (.isub, 1) := by decide +kernel
theorem d_AL_fastRemove_16 : decode prog_27_method_39_code 16 = .ok (.dup, 1) := by decide +kernel
theorem d_AL_fastRemove_17 : decode prog_27_method_39_code 17 = .ok (.istore_n 3, 1) := by decide +kernel
theorem d_AL_fastRemove_18 : decode prog_27_method_39_code 18 = .ok (.iload_n 2, 1) := by decide +kernel
theorem d_AL_fastRemove_19 : decode prog_27_method_39_code 19 = .ok (.if_icmp .le (15), 3) := by decide +kernel
theorem d_AL_fastRemove_22 : decode prog_27_method_39_code 22 = .ok (.aload_n 1, 1) := by decide +kernel
theorem d_AL_fastRemove_23 : decode prog_27_method_39_code 23 = .ok (.iload_n 2, 1) := by decide +kernel
theorem d_AL_fastRemove_24 : decode prog_27_method_39_code 24 = .ok (.iconst 1, 1) := by decide +kernel
theorem d_AL_fastRemove_25 : decode prog_27_method_39_code 25 = .ok (.iadd, 1) := by decide +kernel
theorem d_AL_fastRemove_26 : decode prog_27_method_39_code 26 = .ok (.aload_n 1, 1) := by decide +kernel
theorem d_AL_fastRemove_27 : decode prog_27_method_39_code 27 = .ok (.iload_n 2, 1) := by decide +kernel
theorem d_AL_fastRemove_28 : decode prog_27_method_39_code 28 = .ok (.iload_n 3, 1) := by decide +kernel
theorem d_AL_fastRemove_29 : decode prog_27_method_39_code 29 = .ok (.iload_n 2, 1) := by decide +kernel
theorem d_AL_fastRemove_30 : decode prog_27_method_39_code 30 = .ok (.isub, 1) := by decide +kernel
theorem d_AL_fastRemove_31 : decode prog_27_method_39_code 31 = .ok (.invokestatic 112, 3) := by decide +kernel
theorem d_AL_fastRemove_34 : decode prog_27_method_39_code 34 = .ok (.aload_n 1, 1) := by decide +kernel
theorem d_AL_fastRemove_35 : decode prog_27_method_39_code 35 = .ok (.aload_n 0, 1) := by decide +kernel
theorem d_AL_fastRemove_36 : decode prog_27_method_39_code 36 = .ok (.iload_n 3, 1) := by decide +kernel
theorem d_AL_fastRemove_37 : decode prog_27_method_39_code 37 = .ok (.dup_x1, 1) := by decide +kernel
theorem d_AL_fastRemove_38 : decode prog_27_method_39_code 38 = .ok (.putfield 48, 3) := by decide +kernel
theorem d_AL_fastRemove_41 : decode prog_27_method_39_code 41 = .ok (.aconst_null, 1) := by decide +kernel
theorem d_AL_fastRemove_42 : decode prog_27_method_39_code 42 = .ok (.aastore, 1) := by decide +kernel
theorem d_AL_fastRemove_43 : decode prog_27_method_39_code 43 = .ok (.return_, 1) := by decide +kernel
theorem d_Tk_swapBlocks_0 : decode prog_10_method_6_code 0 = .ok (.aload_n 0, 1) := by decide +kernel
theorem d_Tk_swapBlocks_1 : decode prog_10_method_6_code 1 = .ok (.getfield 10, 3) := by decide +kernel
theorem d_Tk_swapBlocks_4 : decode prog_10_method_6_code 4 = .ok (.iload_n 1, 1) := by decide +kernel
theorem d_Tk_swapBlocks_5 : decode prog_10_method_6_code 5 = .ok (.invokeinterface 23 2, 5) := by decide +kernel
theorem d_Tk_swapBlocks_10 : decode prog_10_method_6_code 10 = .ok (.checkcast 27, 3) := by decide +kernel
theorem d_Tk_swapBlocks_13 : decode prog_10_method_6_code 13 = .ok (.getfield 63, 3) := by decide +kernel
theorem d_Tk_swapBlocks_16 : decode prog_10_method_6_code 16 = .ok (.istore_n 3, 1) := by decide +kernel
theorem d_Tk_swapBlocks_17 : decode prog_10_method_6_code 17 = .ok (.aload_n 0, 1) := by decide +kernel
theorem d_Tk_swapBlocks_18 : decode prog_10_method_6_code 18 = .ok (.iload_n 1, 1) := by decide +kernel
theorem d_Tk_swapBlocks_19 : decode prog_10_method_6_code 19 = .ok (.aload_n 0, 1) := by decide +kernel
theorem d_Tk_swapBlocks_20 : decode prog_10_method_6_code 20 = .ok (.getfield 10, 3) := by decide +kernel
theorem d_Tk_swapBlocks_23 : decode prog_10_method_6_code 23 = .ok (.iload_n 2, 1) := by decide +kernel
theorem d_Tk_swapBlocks_24 : decode prog_10_method_6_code 24 = .ok (.invokeinterface 23 2, 5) := by decide +kernel
theorem d_Tk_swapBlocks_29 : decode prog_10_method_6_code 29 = .ok (.checkcast 27, 3) := by decide +kernel
theorem d_Tk_swapBlocks_32 : decode prog_10_method_6_code 32 = .ok (.getfield 63, 3) := by decide +kernel
theorem d_Tk_swapBlocks_35 : decode prog_10_method_6_code 35 = .ok (.aload_n 0, 1) := by decide +kernel
theorem d_Tk_swapBlocks_36 : decode prog_10_method_6_code 36 = .ok (.getfield 10, 3) := by decide +kernel
theorem d_Tk_swapBlocks_39 : decode prog_10_method_6_code 39 = .ok (.iload_n 1, 1) := by decide +kernel
theorem d_Tk_swapBlocks_40 : decode prog_10_method_6_code 40 = .ok (.invokeinterface 23 2, 5) := by decide +kernel
theorem d_Tk_swapBlocks_45 : decode prog_10_method_6_code 45 = .ok (.checkcast 27, 3) := by decide +kernel
theorem d_Tk_swapBlocks_48 : decode prog_10_method_6_code 48 = .ok (.getfield 66, 3) := by decide +kernel
theorem d_Tk_swapBlocks_51 : decode prog_10_method_6_code 51 = .ok (.invokevirtual 69, 3) := by decide +kernel
theorem d_Tk_swapBlocks_54 : decode prog_10_method_6_code 54 = .ok (.aload_n 0, 1) := by decide +kernel
theorem d_Tk_swapBlocks_55 : decode prog_10_method_6_code 55 = .ok (.iload_n 2, 1) := by decide +kernel
theorem d_Tk_swapBlocks_56 : decode prog_10_method_6_code 56 = .ok (.iload_n 3, 1) := by decide +kernel
theorem d_Tk_swapBlocks_57 : decode prog_10_method_6_code 57 = .ok (.aload_n 0, 1) := by decide +kernel
theorem d_Tk_swapBlocks_58 : decode prog_10_method_6_code 58 = .ok (.getfield 10, 3) := by decide +kernel
theorem d_Tk_swapBlocks_61 : decode prog_10_method_6_code 61 = .ok (.iload_n 2, 1) := by decide +kernel
theorem d_Tk_swapBlocks_62 : decode prog_10_method_6_code 62 = .ok (.invokeinterface 23 2, 5) := by decide +kernel
theorem d_Tk_swapBlocks_67 : decode prog_10_method_6_code 67 = .ok (.checkcast 27, 3) := by decide +kernel
theorem d_Tk_swapBlocks_70 : decode prog_10_method_6_code 70 = .ok (.getfield 66, 3) := by decide +kernel
theorem d_Tk_swapBlocks_73 : decode prog_10_method_6_code 73 = .ok (.invokevirtual 69, 3) := by decide +kernel
theorem d_Tk_swapBlocks_76 : decode prog_10_method_6_code 76 = .ok (.return_, 1) := by decide +kernel
theorem d_Tk_changeLink_0 : decode prog_10_method_5_code 0 = .ok (.aload_n 0, 1) := by decide +kernel
theorem d_Tk_changeLink_1 : decode prog_10_method_5_code 1 = .ok (.getfield 10, 3) := by decide +kernel
theorem d_Tk_changeLink_4 : decode prog_10_method_5_code 4 = .ok (.iload_n 1, 1) := by decide +kernel
theorem d_Tk_changeLink_5 : decode prog_10_method_5_code 5 = .ok (.invokeinterface 23 2, 5) := by decide +kernel
theorem d_Tk_changeLink_10 : decode prog_10_method_5_code 10 = .ok (.checkcast 27, 3) := by decide +kernel
theorem d_Tk_changeLink_13 : decode prog_10_method_5_code 13 = .ok (.astore 4, 2) := by decide +kernel
theorem d_Tk_changeLink_15 : decode prog_10_method_5_code 15 = .ok (.aload_n 0, 1) := by decide +kernel
theorem d_Tk_changeLink_16 : decode prog_10_method_5_code 16 = .ok (.getfield 10, 3) := by decide +kernel
theorem d_Tk_changeLink_19 : decode prog_10_method_5_code 19 = .ok (.iload_n 1, 1) := by decide +kernel
theorem d_Tk_changeLink_20 : decode prog_10_method_5_code 20 = .ok (.new 27, 3) := by decide +kernel
theorem d_Tk_changeLink_23 : decode prog_10_method_5_code 23 = .ok (.dup, 1) := by decide +kernel
theorem d_Tk_changeLink_24 : decode prog_10_method_5_code 24 = .ok (.iload_n 2, 1) := by decide +kernel
theorem d_Tk_changeLink_25 : decode prog_10_method_5_code 25 = .ok (.iload_n 3, 1) := by decide +kernel
theorem d_Tk_changeLink_26 : decode prog_10_method_5_code 26 = .ok (.aload 4, 2) := by decide +kernel
theorem d_Tk_changeLink_28 : decode prog_10_method_5_code 28 = .ok (.getfield 47, 3) := by decide +kernel
theorem d_Tk_changeLink_31 : decode prog_10_method_5_code 31 = .ok (.aload 4, 2) := by decide +kernel
theorem d_Tk_changeLink_33 : decode prog_10_method_5_code 33 = .ok (.getfield 50, 3) := by decide +kernel
theorem d_Tk_changeLink_36 : decode prog_10_method_5_code 36 = .ok (.aload 4, 2) := by decide +kernel
theorem d_Tk_changeLink_38 : decode prog_10_method_5_code 38 = .ok (.getfield 53, 3) := by decide +kernel
theorem d_Tk_changeLink_41 : decode prog_10_method_5_code 41 = .ok (.invokespecial 56, 3) := by decide +kernel
theorem d_Tk_changeLink_44 : decode prog_10_method_5_code 44 = .ok (.invokeinterface 59 3, 5) := by decide +kernel
theorem d_Tk_changeLink_49 : decode prog_10_method_5_code 49 = .ok (.pop, 1) := by decide +kernel
theorem d_Tk_changeLink_50 : decode prog_10_method_5_code 50 = .ok (.return_, 1) := by decide +kernel
theorem d_AL_set_0 : decode prog_27_method_23_code 0 = .ok (.iload_n 1, 1) := by decide +kernel
theorem d_AL_set_1 : decode prog_27_method_23_code 1 = .ok (.aload_n 0, 1) := by decide +kernel
theorem d_AL_set_2 : decode prog_27_method_23_code 2 = .ok (.getfield 48, 3) := by decide +kernel
theorem d_AL_set_5 : decode prog_27_method_23_code 5 = .ok (.invokestatic 118, 3) := by decide +kernel
theorem d_AL_set_8 : decode prog_27_method_23_code 8 = .ok (.pop, 1) := by decide +kernel
theorem d_AL_set_9 : decode prog_27_method_23_code 9 = .ok (.aload_n 0, 1) := by decide +kernel
theorem d_AL_set_10 : decode prog_27_method_23_code 10 = .ok (.iload_n 1, 1) := by decide +kernel
theorem d_AL_set_11 : decode prog_27_method_23_code 11 = .ok (.invokevirtual 123, 3) := by decide +kernel
theorem d_AL_set_14 : decode prog_27_method_23_code 14 = .ok (.astore_n 3, 1) := by decide +kernel
theorem d_AL_set_15 : decode prog_27_method_23_code 15 = .ok (.aload_n 0, 1) := by decide +kernel
theorem d_AL_set_16 : decode prog_27_method_23_code 16 = .ok (.getfield 9, 3) := by decide +kernel
theorem d_AL_set_19 : decode prog_27_method_23_code 19 = .ok (.iload_n 1, 1) := by decide +kernel
theorem d_AL_set_20 : decode prog_27_method_23_code 20 = .ok (.aload_n 2, 1) := by decide +kernel
theorem d_AL_set_21 : decode prog_27_method_23_code 21 = .ok (.aastore, 1) := by decide +kernel
theorem d_AL_set_22 : decode prog_27_method_23_code 22 = .ok (.aload_n 3, 1) := by decide +kernel
theorem d_AL_set_23 : decode prog_27_method_23_code 23 = .ok (.areturn, 1) := by decide +kernel
theorem d_Tk_swapLinks_0 : decode prog_10_method_7_code 0 = .ok (.aload_n 0, 1) := by decide +kernel
theorem d_Tk_swapLinks_1 : decode prog_10_method_7_code 1 = .ok (.getfield 10, 3) := by decide +kernel
theorem d_Tk_swapLinks_4 : decode prog_10_method_7_code 4 = .ok (.iload_n 1, 1) := by decide +kernel
theorem d_Tk_swapLinks_5 : decode prog_10_method_7_code 5 = .ok (.invokeinterface 23 2, 5) := by decide +kernel
theorem d_Tk_swapLinks_10 : decode prog_10_method_7_code 10 = .ok (.checkcast 27, 3) := by decide +kernel
theorem d_Tk_swapLinks_13 : decode prog_10_method_7_code 13 = .ok (.astore_n 3, 1) := by decide +kernel
theorem d_Tk_swapLinks_14 : decode prog_10_method_7_code 14 = .ok (.aload_n 0, 1) := by decide +kernel
theorem d_Tk_swapLinks_15 : decode prog_10_method_7_code 15 = .ok (.getfield 10, 3) := by decide +kernel
theorem d_Tk_swapLinks_18 : decode prog_10_method_7_code 18 = .ok (.iload_n 1, 1) := by decide +kernel
theorem d_Tk_swapLinks_19 : decode prog_10_method_7_code 19 = .ok (.aload_n 0, 1) := by decide +kernel
theorem d_Tk_swapLinks_20 : decode prog_10_method_7_code 20 = .ok (.getfield 10, 3) := by decide +kernel
theorem d_Tk_swapLinks_23 : decode prog_10_method_7_code 23 = .ok (.iload_n 2, 1) := by decide +kernel
theorem d_Tk_swapLinks_24 : decode prog_10_method_7_code 24 = .ok (.invokeinterface 23 2, 5) := by decide +kernel
theorem d_Tk_swapLinks_29 : decode prog_10_method_7_code 29 = .ok (.checkcast 27, 3) := by decide +kernel
theorem d_Tk_swapLinks_32 : decode prog_10_method_7_code 32 = .ok (.invokeinterface 59 3, 5) := by decide +kernel
theorem d_Tk_swapLinks_37 : decode prog_10_method_7_code 37 = .ok (.pop, 1) := by decide +kernel
theorem d_Tk_swapLinks_38 : decode prog_10_method_7_code 38 = .ok (.aload_n 0, 1) := by decide +kernel
theorem d_Tk_swapLinks_39 : decode prog_10_method_7_code 39 = .ok (.getfield 10, 3) := by decide +kernel
theorem d_Tk_swapLinks_42 : decode prog_10_method_7_code 42 = .ok (.iload_n 2, 1) := by decide +kernel
theorem d_Tk_swapLinks_43 : decode prog_10_method_7_code 43 = .ok (.aload_n 3, 1) := by decide +kernel
theorem d_Tk_swapLinks_44 : decode prog_10_method_7_code 44 = .ok (.invokeinterface 59 3, 5) := by decide +kernel
theorem d_Tk_swapLinks_49 : decode prog_10_method_7_code 49 = .ok (.pop, 1) := by decide +kernel
theorem d_Tk_swapLinks_50 : decode prog_10_method_7_code 50 = .ok (.return_, 1) := by decide +kernel
theorem d_Tk_signAnew_0 : decode prog_10_method_8_code 0 = .ok (.aload_n 0, 1) := by decide +kernel
theorem d_Tk_signAnew_1 : decode prog_10_method_8_code 1 = .ok (.getfield 10, 3) := by decide +kernel
theorem d_Tk_signAnew_4 : decode prog_10_method_8_code 4 = .ok (.iload_n 1, 1) := by decide +kernel
theorem d_Tk_signAnew_5 : decode prog_10_method_8_code 5 = .ok (.invokeinterface 23 2, 5) := by decide +kernel
theorem d_Tk_signAnew_10 : decode prog_10_method_8_code 10 = .ok (.checkcast 27, 3) := by decide +kernel
theorem d_Tk_signAnew_13 : decode prog_10_method_8_code 13 = .ok (.astore_n 2, 1) := by decide +kernel
theorem d_Tk_signAnew_14 : decode prog_10_method_8_code 14 = .ok (.aload_n 0, 1) := by decide +kernel
theorem d_Tk_signAnew_15 : decode prog_10_method_8_code 15 = .ok (.getfield 10, 3) := by decide +kernel
theorem d_Tk_signAnew_18 : decode prog_10_method_8_code 18 = .ok (.iload_n 1, 1) := by decide +kernel
theorem d_Tk_signAnew_19 : decode prog_10_method_8_code 19 = .ok (.new 27, 3) := by decide +kernel
theorem d_Tk_signAnew_22 : decode prog_10_method_8_code 22 = .ok (.dup, 1) := by decide +kernel
theorem d_Tk_signAnew_23 : decode prog_10_method_8_code 23 = .ok (.aload_n 2, 1) := by decide +kernel
theorem d_Tk_signAnew_24 : decode prog_10_method_8_code 24 = .ok (.getfield 63, 3) := by decide +kernel
theorem d_Tk_signAnew_27 : decode prog_10_method_8_code 27 = .ok (.aload_n 2, 1) := by decide +kernel
theorem d_Tk_signAnew_28 : decode prog_10_method_8_code 28 = .ok (.getfield 66, 3) := by decide +kernel
theorem d_Tk_signAnew_31 : decode prog_10_method_8_code 31 = .ok (.aload_n 0, 1) := by decide +kernel
theorem d_Tk_signAnew_32 : decode prog_10_method_8_code 32 = .ok (.getfield 37, 3) := by decide +kernel
theorem d_Tk_signAnew_35 : decode prog_10_method_8_code 35 = .ok (.aload_n 2, 1) := by decide +kernel
theorem d_Tk_signAnew_36 : decode prog_10_method_8_code 36 = .ok (.getfield 63, 3) := by decide +kernel
theorem d_Tk_signAnew_39 : decode prog_10_method_8_code 39 = .ok (.aload_n 2, 1) := by decide +kernel
theorem d_Tk_signAnew_40 : decode prog_10_method_8_code 40 = .ok (.getfield 66, 3) := by decide +kernel
theorem d_Tk_signAnew_43 : decode prog_10_method_8_code 43 = .ok (.invokespecial 56, 3) := by decide +kernel
theorem d_Tk_signAnew_46 : decode prog_10_method_8_code 46 = .ok (.invokeinterface 59 3, 5) := by decide +kernel
theorem d_Tk_signAnew_51 : decode prog_10_method_8_code 51 = .ok (.pop, 1) := by decide +kernel
theorem d_Tk_signAnew_52 : decode prog_10_method_8_code 52 = .ok (.return_, 1) := by decide +kernel
theorem d_Lw_authorize_0 : decode method_9_code 0 = .ok (.aload_n 3, 1) := by decide +kernel
theorem d_Lw_authorize_1 : decode method_9_code 1 = .ok (.iconst 0, 1) := by decide +kernel
theorem d_Lw_authorize_2 : decode method_9_code 2 = .ok (.aload_n 0, 1) := by decide +kernel
theorem d_Lw_authorize_3 : decode method_9_code 3 = .ok (.iload_n 1, 1) := by decide +kernel
theorem d_Lw_authorize_4 : decode method_9_code 4 = .ok (.iload_n 2, 1) := by decide +kernel
theorem d_Lw_authorize_5 : decode method_9_code 5 = .ok (.invokevirtual 38, 3) := by decide +kernel
theorem d_Lw_authorize_8 : decode method_9_code 8 = .ok (.i2l, 1) := by decide +kernel
theorem d_Lw_authorize_9 : decode method_9_code 9 = .ok (.lastore, 1) := by decide +kernel
theorem d_Lw_authorize_10 : decode method_9_code 10 = .ok (.goto (11), 3) := by decide +kernel
theorem d_Lw_authorize_13 : decode method_9_code 13 = .ok (.astore 4, 2) := by decide +kernel
theorem d_Lw_authorize_15 : decode method_9_code 15 = .ok (.iconst 1, 1) := by decide +kernel
theorem d_Lw_authorize_16 : decode method_9_code 16 = .ok (.ireturn, 1) := by decide +kernel
theorem d_Lw_authorize_17 : decode method_9_code 17 = .ok (.astore 4, 2) := by decide +kernel
theorem d_Lw_authorize_19 : decode method_9_code 19 = .ok (.iconst 2, 1) := by decide +kernel
theorem d_Lw_authorize_20 : decode method_9_code 20 = .ok (.ireturn, 1) := by decide +kernel
theorem d_Lw_authorize_21 : decode method_9_code 21 = .ok (.iconst 0, 1) := by decide +kernel
theorem d_Lw_authorize_22 : decode method_9_code 22 = .ok (.ireturn, 1) := by decide +kernel
