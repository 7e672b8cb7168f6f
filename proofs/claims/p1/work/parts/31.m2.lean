theorem d_Md_append_0 : decode prog_12_method_31_code 0 = .ok (.aload_n 0, 1) := by decide +kernel
theorem d_Md_append_1 : decode prog_12_method_31_code 1 = .ok (.aload_n 0, 1) := by decide +kernel
theorem d_Md_append_2 : decode prog_12_method_31_code 2 = .ok (.iload_n 1, 1) := by decide +kernel
theorem d_Md_append_3 : decode prog_12_method_31_code 3 = .ok (.invokevirtual 188, 3) := by decide +kernel
theorem d_Md_append_6 : decode prog_12_method_31_code 6 = .ok (.ifCond .ne (7), 3) := by decide +kernel
theorem d_Md_append_9 : decode prog_12_method_31_code 9 = .ok (.iconst 1, 1) := by decide +kernel
theorem d_Md_append_10 : decode prog_12_method_31_code 10 = .ok (.goto (36), 3) := by decide +kernel
theorem d_Md_append_13 : decode prog_12_method_31_code 13 = .ok (.aload_n 0, 1) := by decide +kernel
theorem d_Md_append_14 : decode prog_12_method_31_code 14 = .ok (.getfield 35, 3) := by decide +kernel
theorem d_Md_append_17 : decode prog_12_method_31_code 17 = .ok (.iload_n 1, 1) := by decide +kernel
theorem d_Md_append_18 : decode prog_12_method_31_code 18 = .ok (.baload, 1) := by decide +kernel
theorem d_Md_append_19 : decode prog_12_method_31_code 19 = .ok (.ifCond .ne (22), 3) := by decide +kernel
theorem d_Md_append_22 : decode prog_12_method_31_code 22 = .ok (.aload_n 0, 1) := by decide +kernel
theorem d_Md_append_23 : decode prog_12_method_31_code 23 = .ok (.getfield 29, 3) := by decide +kernel
theorem d_Md_append_26 : decode prog_12_method_31_code 26 = .ok (.iload_n 1, 1) := by decide +kernel
theorem d_Md_append_27 : decode prog_12_method_31_code 27 = .ok (.iaload, 1) := by decide +kernel
theorem d_Md_append_28 : decode prog_12_method_31_code 28 = .ok (.iconst 4, 1) := by decide +kernel
theorem d_Md_append_29 : decode prog_12_method_31_code 29 = .ok (.if_icmp .eq (12), 3) := by decide +kernel
theorem d_Md_append_32 : decode prog_12_method_31_code 32 = .ok (.aload_n 0, 1) := by decide +kernel
theorem d_Md_append_33 : decode prog_12_method_31_code 33 = .ok (.getfield 178, 3) := by decide +kernel
theorem d_Md_append_36 : decode prog_12_method_31_code 36 = .ok (.bipush (16), 2) := by decide +kernel
theorem d_Md_append_38 : decode prog_12_method_31_code 38 = .ok (.if_icmp .ne (7), 3) := by decide +kernel
theorem d_Md_append_41 : decode prog_12_method_31_code 41 = .ok (.iconst 2, 1) := by decide +kernel
theorem d_Md_append_42 : decode prog_12_method_31_code 42 = .ok (.goto (4), 3) := by decide +kernel
theorem d_Md_append_45 : decode prog_12_method_31_code 45 = .ok (.iconst 0, 1) := by decide +kernel
theorem d_Md_append_46 : decode prog_12_method_31_code 46 = .ok (.putfield 84, 3) := by decide +kernel
theorem d_Md_append_49 : decode prog_12_method_31_code 49 = .ok (.aload_n 0, 1) := by decide +kernel
theorem d_Md_append_50 : decode prog_12_method_31_code 50 = .ok (.getfield 84, 3) := by decide +kernel
theorem d_Md_append_53 : decode prog_12_method_31_code 53 = .ok (.ifCond .le (5), 3) := by decide +kernel
theorem d_Md_append_56 : decode prog_12_method_31_code 56 = .ok (.iconst 0, 1) := by decide +kernel
theorem d_Md_append_57 : decode prog_12_method_31_code 57 = .ok (.ireturn, 1) := by decide +kernel
theorem d_Md_append_58 : decode prog_12_method_31_code 58 = .ok (.aload_n 0, 1) := by decide +kernel
theorem d_Md_append_59 : decode prog_12_method_31_code 59 = .ok (.iload_n 1, 1) := by decide +kernel
theorem d_Md_append_60 : decode prog_12_method_31_code 60 = .ok (.invokevirtual 191, 3) := by decide +kernel
theorem d_Md_append_63 : decode prog_12_method_31_code 63 = .ok (.istore_n 2, 1) := by decide +kernel
theorem d_Md_append_64 : decode prog_12_method_31_code 64 = .ok (.aload_n 0, 1) := by decide +kernel
theorem d_Md_append_65 : decode prog_12_method_31_code 65 = .ok (.dup, 1) := by decide +kernel
theorem d_Md_append_66 : decode prog_12_method_31_code 66 = .ok (.getfield 19, 3) := by decide +kernel
theorem d_Md_append_69 : decode prog_12_method_31_code 69 = .ok (.iconst 1, 1) := by decide +kernel
theorem d_Md_append_70 : decode prog_12_method_31_code 70 = .ok (.iadd, 1) := by decide +kernel
theorem d_Md_append_71 : decode prog_12_method_31_code 71 = .ok (.putfield 19, 3) := by decide +kernel
theorem d_Md_append_74 : decode prog_12_method_31_code 74 = .ok (.aload_n 0, 1) := by decide +kernel
theorem d_Md_append_75 : decode prog_12_method_31_code 75 = .ok (.iload_n 2, 1) := by decide +kernel
theorem d_Md_append_76 : decode prog_12_method_31_code 76 = .ok (.aload_n 0, 1) := by decide +kernel
theorem d_Md_append_77 : decode prog_12_method_31_code 77 = .ok (.getfield 29, 3) := by decide +kernel
theorem d_Md_append_80 : decode prog_12_method_31_code 80 = .ok (.iload_n 2, 1) := by decide +kernel
theorem d_Md_append_81 : decode prog_12_method_31_code 81 = .ok (.iaload, 1) := by decide +kernel
theorem d_Md_append_82 : decode prog_12_method_31_code 82 = .ok (.aload_n 0, 1) := by decide +kernel
theorem d_Md_append_83 : decode prog_12_method_31_code 83 = .ok (.invokevirtual 181, 3) := by decide +kernel
theorem d_Md_append_86 : decode prog_12_method_31_code 86 = .ok (.aload_n 0, 1) := by decide +kernel
theorem d_Md_append_87 : decode prog_12_method_31_code 87 = .ok (.getfield 19, 3) := by decide +kernel
theorem d_Md_append_90 : decode prog_12_method_31_code 90 = .ok (.aload_n 0, 1) := by decide +kernel
theorem d_Md_append_91 : decode prog_12_method_31_code 91 = .ok (.getfield 39, 3) := by decide +kernel
theorem d_Md_append_94 : decode prog_12_method_31_code 94 = .ok (.iload_n 2, 1) := by decide +kernel
theorem d_Md_append_95 : decode prog_12_method_31_code 95 = .ok (.iaload, 1) := by decide +kernel
theorem d_Md_append_96 : decode prog_12_method_31_code 96 = .ok (.invokevirtual 184, 3) := by decide +kernel
theorem d_Md_append_99 : decode prog_12_method_31_code 99 = .ok (.aload_n 0, 1) := by decide +kernel
theorem d_Md_append_100 : decode prog_12_method_31_code 100 = .ok (.getfield 29, 3) := by decide +kernel
theorem d_Md_append_103 : decode prog_12_method_31_code 103 = .ok (.iload_n 2, 1) := by decide +kernel
theorem d_Md_append_104 : decode prog_12_method_31_code 104 = .ok (.dup2, 1) := by decide +kernel
theorem d_Md_append_105 : decode prog_12_method_31_code 105 = .ok (.iaload, 1) := by decide +kernel
theorem d_Md_append_106 : decode prog_12_method_31_code 106 = .ok (.iconst 1, 1) := by decide +kernel
theorem d_Md_append_107 : decode prog_12_method_31_code 107 = .ok (.iadd, 1) := by decide +kernel
theorem d_Md_append_108 : decode prog_12_method_31_code 108 = .ok (.iastore, 1) := by decide +kernel
theorem d_Md_append_109 : decode prog_12_method_31_code 109 = .ok (.aload_n 0, 1) := by decide +kernel
theorem d_Md_append_110 : decode prog_12_method_31_code 110 = .ok (.getfield 39, 3) := by decide +kernel
theorem d_Md_append_113 : decode prog_12_method_31_code 113 = .ok (.iload_n 2, 1) := by decide +kernel
theorem d_Md_append_114 : decode prog_12_method_31_code 114 = .ok (.aload_n 0, 1) := by decide +kernel
theorem d_Md_append_115 : decode prog_12_method_31_code 115 = .ok (.getfield 19, 3) := by decide +kernel
theorem d_Md_append_118 : decode prog_12_method_31_code 118 = .ok (.iastore, 1) := by decide +kernel
theorem d_Md_append_119 : decode prog_12_method_31_code 119 = .ok (.iload_n 2, 1) := by decide +kernel
theorem d_Md_append_120 : decode prog_12_method_31_code 120 = .ok (.ireturn, 1) := by decide +kernel
theorem d_Md_isToken_0 : decode prog_12_method_29_code 0 = .ok (.iload_n 1, 1) := by decide +kernel
theorem d_Md_isToken_1 : decode prog_12_method_29_code 1 = .ok (.ifCond .lt (15), 3) := by decide +kernel
theorem d_Md_isToken_4 : decode prog_12_method_29_code 4 = .ok (.iload_n 1, 1) := by decide +kernel
theorem d_Md_isToken_5 : decode prog_12_method_29_code 5 = .ok (.aload_n 0, 1) := by decide +kernel
theorem d_Md_isToken_6 : decode prog_12_method_29_code 6 = .ok (.getfield 178, 3) := by decide +kernel
theorem d_Md_isToken_9 : decode prog_12_method_29_code 9 = .ok (.if_icmp .ge (7), 3) := by decide +kernel
theorem d_Md_isToken_12 : decode prog_12_method_29_code 12 = .ok (.iconst 1, 1) := by decide +kernel
theorem d_Md_isToken_13 : decode prog_12_method_29_code 13 = .ok (.goto (4), 3) := by decide +kernel
theorem d_Md_isToken_16 : decode prog_12_method_29_code 16 = .ok (.iconst 0, 1) := by decide +kernel
theorem d_Md_isToken_17 : decode prog_12_method_29_code 17 = .ok (.ireturn, 1) := by decide +kernel
theorem d_Md_like_0 : decode prog_12_method_28_code 0 = .ok (.iconst 0, 1) := by decide +kernel
theorem d_Md_like_1 : decode prog_12_method_28_code 1 = .ok (.istore_n 2, 1) := by decide +kernel
theorem d_Md_like_2 : decode prog_12_method_28_code 2 = .ok (.iload_n 2, 1) := by decide +kernel
theorem d_Md_like_3 : decode prog_12_method_28_code 3 = .ok (.bipush (20), 2) := by decide +kernel
theorem d_Md_like_5 : decode prog_12_method_28_code 5 = .ok (.if_icmp .ge (34), 3) := by decide +kernel
theorem d_Md_like_8 : decode prog_12_method_28_code 8 = .ok (.aload_n 0, 1) := by decide +kernel
theorem d_Md_like_9 : decode prog_12_method_28_code 9 = .ok (.getfield 32, 3) := by decide +kernel
theorem d_Md_like_12 : decode prog_12_method_28_code 12 = .ok (.bipush (20), 2) := by decide +kernel
theorem d_Md_like_14 : decode prog_12_method_28_code 14 = .ok (.aload_n 0, 1) := by decide +kernel
theorem d_Md_like_15 : decode prog_12_method_28_code 15 = .ok (.getfield 178, 3) := by decide +kernel
theorem d_Md_like_18 : decode prog_12_method_28_code 18 = .ok (.imul, 1) := by decide +kernel
theorem d_Md_like_19 : decode prog_12_method_28_code 19 = .ok (.iload_n 2, 1) := by decide +kernel
theorem d_Md_like_20 : decode prog_12_method_28_code 20 = .ok (.iadd, 1) := by decide +kernel
theorem d_Md_like_21 : decode prog_12_method_28_code 21 = .ok (.aload_n 0, 1) := by decide +kernel
theorem d_Md_like_22 : decode prog_12_method_28_code 22 = .ok (.getfield 32, 3) := by decide +kernel
theorem d_Md_like_25 : decode prog_12_method_28_code 25 = .ok (.bipush (20), 2) := by decide +kernel
theorem d_Md_like_27 : decode prog_12_method_28_code 27 = .ok (.iload_n 1, 1) := by decide +kernel
theorem d_Md_like_28 : decode prog_12_method_28_code 28 = .ok (.imul, 1) := by decide +kernel
theorem d_Md_like_29 : decode prog_12_method_28_code 29 = .ok (.iload_n 2, 1) := by decide +kernel
theorem d_Md_like_30 : decode prog_12_method_28_code 30 = .ok (.iadd, 1) := by decide +kernel
theorem d_Md_like_31 : decode prog_12_method_28_code 31 = .ok (.iaload, 1) := by decide +kernel
theorem d_Md_like_32 : decode prog_12_method_28_code 32 = .ok (.iastore, 1) := by decide +kernel
theorem d_Md_like_33 : decode prog_12_method_28_code 33 = .ok (.iinc 2 (1), 3) := by decide +kernel
theorem d_Md_like_36 : decode prog_12_method_28_code 36 = .ok (.goto (-34), 3) := by decide +kernel
theorem d_Md_like_39 : decode prog_12_method_28_code 39 = .ok (.aload_n 0, 1) := by decide +kernel
theorem d_Md_like_40 : decode prog_12_method_28_code 40 = .ok (.getfield 29, 3) := by decide +kernel
theorem d_Md_like_43 : decode prog_12_method_28_code 43 = .ok (.aload_n 0, 1) := by decide +kernel
theorem d_Md_like_44 : decode prog_12_method_28_code 44 = .ok (.getfield 178, 3) := by decide +kernel
theorem d_Md_like_47 : decode prog_12_method_28_code 47 = .ok (.aload_n 0, 1) := by decide +kernel
theorem d_Md_like_48 : decode prog_12_method_28_code 48 = .ok (.getfield 29, 3) := by decide +kernel
theorem d_Md_like_51 : decode prog_12_method_28_code 51 = .ok (.iload_n 1, 1) := by decide +kernel
theorem d_Md_like_52 : decode prog_12_method_28_code 52 = .ok (.iaload, 1) := by decide +kernel
theorem d_Md_like_53 : decode prog_12_method_28_code 53 = .ok (.iastore, 1) := by decide +kernel
theorem d_Md_like_54 : decode prog_12_method_28_code 54 = .ok (.aload_n 0, 1) := by decide +kernel
theorem d_Md_like_55 : decode prog_12_method_28_code 55 = .ok (.getfield 35, 3) := by decide +kernel
theorem d_Md_like_58 : decode prog_12_method_28_code 58 = .ok (.aload_n 0, 1) := by decide +kernel
theorem d_Md_like_59 : decode prog_12_method_28_code 59 = .ok (.getfield 178, 3) := by decide +kernel
theorem d_Md_like_62 : decode prog_12_method_28_code 62 = .ok (.aload_n 0, 1) := by decide +kernel
theorem d_Md_like_63 : decode prog_12_method_28_code 63 = .ok (.getfield 35, 3) := by decide +kernel
theorem d_Md_like_66 : decode prog_12_method_28_code 66 = .ok (.iload_n 1, 1) := by decide +kernel
theorem d_Md_like_67 : decode prog_12_method_28_code 67 = .ok (.baload, 1) := by decide +kernel
theorem d_Md_like_68 : decode prog_12_method_28_code 68 = .ok (.bastore, 1) := by decide +kernel
theorem d_Md_like_69 : decode prog_12_method_28_code 69 = .ok (.aload_n 0, 1) := by decide +kernel
theorem d_Md_like_70 : decode prog_12_method_28_code 70 = .ok (.getfield 39, 3) := by decide +kernel
theorem d_Md_like_73 : decode prog_12_method_28_code 73 = .ok (.aload_n 0, 1) := by decide +kernel
theorem d_Md_like_74 : decode prog_12_method_28_code 74 = .ok (.getfield 178, 3) := by decide +kernel
theorem d_Md_like_77 : decode prog_12_method_28_code 77 = .ok (.aload_n 0, 1) := by decide +kernel
theorem d_Md_like_78 : decode prog_12_method_28_code 78 = .ok (.getfield 39, 3) := by decide +kernel
theorem d_Md_like_81 : decode prog_12_method_28_code 81 = .ok (.iload_n 1, 1) := by decide +kernel
theorem d_Md_like_82 : decode prog_12_method_28_code 82 = .ok (.iaload, 1) := by decide +kernel
theorem d_Md_like_83 : decode prog_12_method_28_code 83 = .ok (.iastore, 1) := by decide +kernel
theorem d_Md_like_84 : decode prog_12_method_28_code 84 = .ok (.aload_n 0, 1) := by decide +kernel
theorem d_Md_like_85 : decode prog_12_method_28_code 85 = .ok (.getfield 42, 3) := by decide +kernel
theorem d_Md_like_88 : decode prog_12_method_28_code 88 = .ok (.aload_n 0, 1) := by decide +kernel
theorem d_Md_like_89 : decode prog_12_method_28_code 89 = .ok (.getfield 178, 3) := by decide +kernel
theorem d_Md_like_92 : decode prog_12_method_28_code 92 = .ok (.aload_n 0, 1) := by decide +kernel
theorem d_Md_like_93 : decode prog_12_method_28_code 93 = .ok (.getfield 42, 3) := by decide +kernel
theorem d_Md_like_96 : decode prog_12_method_28_code 96 = .ok (.iload_n 1, 1) := by decide +kernel
theorem d_Md_like_97 : decode prog_12_method_28_code 97 = .ok (.iaload, 1) := by decide +kernel
theorem d_Md_like_98 : decode prog_12_method_28_code 98 = .ok (.iastore, 1) := by decide +kernel
theorem d_Md_like_99 : decode prog_12_method_28_code 99 = .ok (.aload_n 0, 1) := by decide +kernel
theorem d_Md_like_100 : decode prog_12_method_28_code 100 = .ok (.dup, 1) := by decide +kernel
theorem d_Md_like_101 : decode prog_12_method_28_code 101 = .ok (.getfield 178, 3) := by decide +kernel
theorem d_Md_like_104 : decode prog_12_method_28_code 104 = .ok (.iconst 1, 1) := by decide +kernel
theorem d_Md_like_105 : decode prog_12_method_28_code 105 = .ok (.iadd, 1) := by decide +kernel
theorem d_Md_like_106 : decode prog_12_method_28_code 106 = .ok (.putfield 178, 3) := by decide +kernel
theorem d_Md_like_109 : decode prog_12_method_28_code 109 = .ok (.aload_n 0, 1) := by decide +kernel
theorem d_Md_like_110 : decode prog_12_method_28_code 110 = .ok (.getfield 178, 3) := by decide +kernel
theorem d_Md_like_113 : decode prog_12_method_28_code 113 = .ok (.iconst 1, 1) := by decide +kernel
theorem d_Md_like_114 : decode prog_12_method_28_code 114 = .ok (.isub, 1) := by decide +kernel
theorem d_Md_like_115 : decode prog_12_method_28_code 115 = .ok (.ireturn, 1) := by decide +kernel
theorem d_Md_seal_0 : decode prog_12_method_32_code 0 = .ok (.aload_n 0, 1) := by decide +kernel
theorem d_Md_seal_1 : decode prog_12_method_32_code 1 = .ok (.aload_n 0, 1) := by decide +kernel
theorem d_Md_seal_2 : decode prog_12_method_32_code 2 = .ok (.iload_n 1, 1) := by decide +kernel
theorem d_Md_seal_3 : decode prog_12_method_32_code 3 = .ok (.invokevirtual 188, 3) := by decide +kernel
theorem d_Md_seal_6 : decode prog_12_method_32_code 6 = .ok (.ifCond .ne (7), 3) := by decide +kernel
theorem d_Md_seal_9 : decode prog_12_method_32_code 9 = .ok (.iconst 1, 1) := by decide +kernel
theorem d_Md_seal_10 : decode prog_12_method_32_code 10 = .ok (.goto (26), 3) := by decide +kernel
theorem d_Md_seal_13 : decode prog_12_method_32_code 13 = .ok (.aload_n 0, 1) := by decide +kernel
theorem d_Md_seal_14 : decode prog_12_method_32_code 14 = .ok (.getfield 35, 3) := by decide +kernel
theorem d_Md_seal_17 : decode prog_12_method_32_code 17 = .ok (.iload_n 1, 1) := by decide +kernel
theorem d_Md_seal_18 : decode prog_12_method_32_code 18 = .ok (.baload, 1) := by decide +kernel
theorem d_Md_seal_19 : decode prog_12_method_32_code 19 = .ok (.ifCond .ne (12), 3) := by decide +kernel
theorem d_Md_seal_22 : decode prog_12_method_32_code 22 = .ok (.aload_n 0, 1) := by decide +kernel
theorem d_Md_seal_23 : decode prog_12_method_32_code 23 = .ok (.getfield 178, 3) := by decide +kernel
theorem d_Md_seal_26 : decode prog_12_method_32_code 26 = .ok (.bipush (16), 2) := by decide +kernel
theorem d_Md_seal_28 : decode prog_12_method_32_code 28 = .ok (.if_icmp .ne (7), 3) := by decide +kernel
theorem d_Md_seal_31 : decode prog_12_method_32_code 31 = .ok (.iconst 2, 1) := by decide +kernel
theorem d_Md_seal_32 : decode prog_12_method_32_code 32 = .ok (.goto (4), 3) := by decide +kernel
theorem d_Md_seal_35 : decode prog_12_method_32_code 35 = .ok (.iconst 0, 1) := by decide +kernel
theorem d_Md_seal_36 : decode prog_12_method_32_code 36 = .ok (.putfield 84, 3) := by decide +kernel
theorem d_Md_seal_39 : decode prog_12_method_32_code 39 = .ok (.aload_n 0, 1) := by decide +kernel
theorem d_Md_seal_40 : decode prog_12_method_32_code 40 = .ok (.getfield 84, 3) := by decide +kernel
theorem d_Md_seal_43 : decode prog_12_method_32_code 43 = .ok (.ifCond .le (5), 3) := by decide +kernel
theorem d_Md_seal_46 : decode prog_12_method_32_code 46 = .ok (.iconst 0, 1) := by decide +kernel
theorem d_Md_seal_47 : decode prog_12_method_32_code 47 = .ok (.ireturn, 1) := by decide +kernel
theorem d_Md_seal_48 : decode prog_12_method_32_code 48 = .ok (.aload_n 0, 1) := by decide +kernel
theorem d_Md_seal_49 : decode prog_12_method_32_code 49 = .ok (.iload_n 1, 1) := by decide +kernel
theorem d_Md_seal_50 : decode prog_12_method_32_code 50 = .ok (.invokevirtual 191, 3) := by decide +kernel
theorem d_Md_seal_53 : decode prog_12_method_32_code 53 = .ok (.istore_n 2, 1) := by decide +kernel
theorem d_Md_seal_54 : decode prog_12_method_32_code 54 = .ok (.aload_n 0, 1) := by decide +kernel
theorem d_Md_seal_55 : decode prog_12_method_32_code 55 = .ok (.getfield 35, 3) := by decide +kernel
theorem d_Md_seal_58 : decode prog_12_method_32_code 58 = .ok (.iload_n 2, 1) := by decide +kernel
theorem d_Md_seal_59 : decode prog_12_method_32_code 59 = .ok (.iconst 1, 1) := by decide +kernel
theorem d_Md_seal_60 : decode prog_12_method_32_code 60 = .ok (.bastore, 1) := by decide +kernel
theorem d_Md_seal_61 : decode prog_12_method_32_code 61 = .ok (.aload_n 0, 1) := by decide +kernel
theorem d_Md_seal_62 : decode prog_12_method_32_code 62 = .ok (.getfield 42, 3) := by decide +kernel
theorem d_Md_seal_65 : decode prog_12_method_32_code 65 = .ok (.iload_n 2, 1) := by decide +kernel
theorem d_Md_seal_66 : decode prog_12_method_32_code 66 = .ok (.aload_n 0, 1) := by decide +kernel
theorem d_Md_seal_67 : decode prog_12_method_32_code 67 = .ok (.getfield 29, 3) := by decide +kernel
theorem d_Md_seal_70 : decode prog_12_method_32_code 70 = .ok (.iload_n 2, 1) := by decide +kernel
theorem d_Md_seal_71 : decode prog_12_method_32_code 71 = .ok (.iaload, 1) := by decide +kernel
theorem d_Md_seal_72 : decode prog_12_method_32_code 72 = .ok (.iastore, 1) := by decide +kernel
theorem d_Md_seal_73 : decode prog_12_method_32_code 73 = .ok (.iload_n 2, 1) := by decide +kernel
theorem d_Md_seal_74 : decode prog_12_method_32_code 74 = .ok (.ireturn, 1) := by decide +kernel
theorem d_Md_tamper_0 : decode prog_12_method_34_code 0 = .ok (.aload_n 0, 1) := by decide +kernel
theorem d_Md_tamper_1 : decode prog_12_method_34_code 1 = .ok (.iload_n 1, 1) := by decide +kernel
theorem d_Md_tamper_2 : decode prog_12_method_34_code 2 = .ok (.invokevirtual 188, 3) := by decide +kernel
theorem d_Md_tamper_5 : decode prog_12_method_34_code 5 = .ok (.ifCond .eq (17), 3) := by decide +kernel
theorem d_Md_tamper_8 : decode prog_12_method_34_code 8 = .ok (.iload_n 2, 1) := by decide +kernel
theorem d_Md_tamper_9 : decode prog_12_method_34_code 9 = .ok (.ifCond .lt (13), 3) := by decide +kernel
theorem d_Md_tamper_12 : decode prog_12_method_34_code 12 = .ok (.iload_n 2, 1) := by decide +kernel
theorem d_Md_tamper_13 : decode prog_12_method_34_code 13 = .ok (.bipush (6), 2) := by decide +kernel
theorem d_Md_tamper_15 : decode prog_12_method_34_code 15 = .ok (.if_icmp .gt (7), 3) := by decide +kernel
theorem d_Md_tamper_18 : decode prog_12_method_34_code 18 = .ok (.iconst 1, 1) := by decide +kernel
theorem d_Md_tamper_19 : decode prog_12_method_34_code 19 = .ok (.goto (4), 3) := by decide +kernel
theorem d_Md_tamper_22 : decode prog_12_method_34_code 22 = .ok (.iconst 0, 1) := by decide +kernel
theorem d_Md_tamper_23 : decode prog_12_method_34_code 23 = .ok (.istore 5, 2) := by decide +kernel
theorem d_Md_tamper_25 : decode prog_12_method_34_code 25 = .ok (.iload 5, 2) := by decide +kernel
theorem d_Md_tamper_27 : decode prog_12_method_34_code 27 = .ok (.ifCond .eq (12), 3) := by decide +kernel
theorem d_Md_tamper_30 : decode prog_12_method_34_code 30 = .ok (.aload_n 0, 1) := by decide +kernel
theorem d_Md_tamper_31 : decode prog_12_method_34_code 31 = .ok (.getfield 29, 3) := by decide +kernel
theorem d_Md_tamper_34 : decode prog_12_method_34_code 34 = .ok (.iload_n 1, 1) := by decide +kernel
theorem d_Md_tamper_35 : decode prog_12_method_34_code 35 = .ok (.iaload, 1) := by decide +kernel
theorem d_Md_tamper_36 : decode prog_12_method_34_code 36 = .ok (.goto (4), 3) := by decide +kernel
theorem d_Md_tamper_39 : decode prog_12_method_34_code 39 = .ok (.iconst 0, 1) := by decide +kernel
theorem d_Md_tamper_40 : decode prog_12_method_34_code 40 = .ok (.istore 6, 2) := by decide +kernel
theorem d_Md_tamper_42 : decode prog_12_method_34_code 42 = .ok (.iload_n 2, 1) := by decide +kernel
theorem d_Md_tamper_43 : decode prog_12_method_34_code 43 = .ok (.ifCond .ne (17), 3) := by decide +kernel
theorem d_Md_tamper_46 : decode prog_12_method_34_code 46 = .ok (.iload 6, 2) := by decide +kernel
theorem d_Md_tamper_48 : decode prog_12_method_34_code 48 = .ok (.iconst 1, 1) := by decide +kernel
theorem d_Md_tamper_49 : decode prog_12_method_34_code 49 = .ok (.if_icmp .le (7), 3) := by decide +kernel
theorem d_Md_tamper_52 : decode prog_12_method_34_code 52 = .ok (.iconst 1, 1) := by decide +kernel
theorem d_Md_tamper_53 : decode prog_12_method_34_code 53 = .ok (.goto (22), 3) := by decide +kernel
theorem d_Md_tamper_56 : decode prog_12_method_34_code 56 = .ok (.iconst 0, 1) := by decide +kernel
theorem d_Md_tamper_57 : decode prog_12_method_34_code 57 = .ok (.goto (18), 3) := by decide +kernel
theorem d_Md_tamper_60 : decode prog_12_method_34_code 60 = .ok (.iload_n 3, 1) := by decide +kernel
theorem d_Md_tamper_61 : decode prog_12_method_34_code 61 = .ok (.ifCond .lt (13), 3) := by decide +kernel
theorem d_Md_tamper_64 : decode prog_12_method_34_code 64 = .ok (.iload_n 3, 1) := by decide +kernel
theorem d_Md_tamper_65 : decode prog_12_method_34_code 65 = .ok (.iload 6, 2) := by decide +kernel
theorem d_Md_tamper_67 : decode prog_12_method_34_code 67 = .ok (.if_icmp .ge (7), 3) := by decide +kernel
theorem d_Md_tamper_70 : decode prog_12_method_34_code 70 = .ok (.iconst 1, 1) := by decide +kernel
theorem d_Md_tamper_71 : decode prog_12_method_34_code 71 = .ok (.goto (4), 3) := by decide +kernel
theorem d_Md_tamper_74 : decode prog_12_method_34_code 74 = .ok (.iconst 0, 1) := by decide +kernel
theorem d_Md_tamper_75 : decode prog_12_method_34_code 75 = .ok (.istore 7, 2) := by decide +kernel
theorem d_Md_tamper_77 : decode prog_12_method_34_code 77 = .ok (.iload_n 2, 1) := by decide +kernel
theorem d_Md_tamper_78 : decode prog_12_method_34_code 78 = .ok (.iconst 1, 1) := by decide +kernel
theorem d_Md_tamper_79 : decode prog_12_method_34_code 79 = .ok (.if_icmp .eq (8), 3) := by decide +kernel
theorem d_Md_tamper_82 : decode prog_12_method_34_code 82 = .ok (.iload_n 2, 1) := by decide +kernel
theorem d_Md_tamper_83 : decode prog_12_method_34_code 83 = .ok (.iconst 2, 1) := by decide +kernel
theorem d_Md_tamper_84 : decode prog_12_method_34_code 84 = .ok (.if_icmp .ne (15), 3) := by decide +kernel
theorem d_Md_tamper_87 : decode prog_12_method_34_code 87 = .ok (.iload 4, 2) := by decide +kernel
theorem d_Md_tamper_89 : decode prog_12_method_34_code 89 = .ok (.ifCond .lt (14), 3) := by decide +kernel
theorem d_Md_tamper_92 : decode prog_12_method_34_code 92 = .ok (.iload 4, 2) := by decide +kernel
theorem d_Md_tamper_94 : decode prog_12_method_34_code 94 = .ok (.iload 6, 2) := by decide +kernel
theorem d_Md_tamper_96 : decode prog_12_method_34_code 96 = .ok (.if_icmp .ge (7), 3) := by decide +kernel
theorem d_Md_tamper_99 : decode prog_12_method_34_code 99 = .ok (.iconst 1, 1) := by decide +kernel
theorem d_Md_tamper_100 : decode prog_12_method_34_code 100 = .ok (.goto (4), 3) := by decide +kernel
theorem d_Md_tamper_103 : decode prog_12_method_34_code 103 = .ok (.iconst 0, 1) := by decide +kernel
theorem d_Md_tamper_104 : decode prog_12_method_34_code 104 = .ok (.istore 8, 2) := by decide +kernel
theorem d_Md_tamper_106 : decode prog_12_method_34_code 106 = .ok (.aload_n 0, 1) := by decide +kernel
theorem d_Md_tamper_107 : decode prog_12_method_34_code 107 = .ok (.iload 5, 2) := by decide +kernel
theorem d_Md_tamper_109 : decode prog_12_method_34_code 109 = .ok (.ifCond .eq (13), 3) := by decide +kernel
theorem d_Md_tamper_112 : decode prog_12_method_34_code 112 = .ok (.iload 7, 2) := by decide +kernel
theorem d_Md_tamper_114 : decode prog_12_method_34_code 114 = .ok (.ifCond .eq (8), 3) := by decide +kernel
theorem d_Md_tamper_117 : decode prog_12_method_34_code 117 = .ok (.iload 8, 2) := by decide +kernel
theorem d_Md_tamper_119 : decode prog_12_method_34_code 119 = .ok (.ifCond .ne (7), 3) := by decide +kernel
theorem d_Md_tamper_122 : decode prog_12_method_34_code 122 = .ok (.iconst 1, 1) := by decide +kernel
theorem d_Md_tamper_123 : decode prog_12_method_34_code 123 = .ok (.goto (32), 3) := by decide +kernel
theorem d_Md_tamper_126 : decode prog_12_method_34_code 126 = .ok (.aload_n 0, 1) := by decide +kernel
theorem d_Md_tamper_127 : decode prog_12_method_34_code 127 = .ok (.getfield 178, 3) := by decide +kernel
theorem d_Md_tamper_130 : decode prog_12_method_34_code 130 = .ok (.bipush (16), 2) := by decide +kernel
theorem d_Md_tamper_132 : decode prog_12_method_34_code 132 = .ok (.if_icmp .eq (18), 3) := by decide +kernel
theorem d_Md_tamper_135 : decode prog_12_method_34_code 135 = .ok (.iload_n 2, 1) := by decide +kernel
theorem d_Md_tamper_136 : decode prog_12_method_34_code 136 = .ok (.bipush (6), 2) := by decide +kernel
theorem d_Md_tamper_138 : decode prog_12_method_34_code 138 = .ok (.if_icmp .ne (16), 3) := by decide +kernel
theorem d_Md_tamper_141 : decode prog_12_method_34_code 141 = .ok (.aload_n 0, 1) := by decide +kernel
theorem d_Md_tamper_142 : decode prog_12_method_34_code 142 = .ok (.getfield 35, 3) := by decide +kernel
theorem d_Md_tamper_145 : decode prog_12_method_34_code 145 = .ok (.iload_n 1, 1) := by decide +kernel
theorem d_Md_tamper_146 : decode prog_12_method_34_code 146 = .ok (.baload, 1) := by decide +kernel
theorem d_Md_tamper_147 : decode prog_12_method_34_code 147 = .ok (.ifCond .eq (7), 3) := by decide +kernel
theorem d_Md_tamper_150 : decode prog_12_method_34_code 150 = .ok (.iconst 2, 1) := by decide +kernel
theorem d_Md_tamper_151 : decode prog_12_method_34_code 151 = .ok (.goto (4), 3) := by decide +kernel
theorem d_Md_tamper_154 : decode prog_12_method_34_code 154 = .ok (.iconst 0, 1) := by decide +kernel
theorem d_Md_tamper_155 : decode prog_12_method_34_code 155 = .ok (.putfield 84, 3) := by decide +kernel
theorem d_Md_tamper_158 : decode prog_12_method_34_code 158 = .ok (.aload_n 0, 1) := by decide +kernel
theorem d_Md_tamper_159 : decode prog_12_method_34_code 159 = .ok (.getfield 84, 3) := by decide +kernel
theorem d_Md_tamper_162 : decode prog_12_method_34_code 162 = .ok (.ifCond .le (5), 3) := by decide +kernel
theorem d_Md_tamper_165 : decode prog_12_method_34_code 165 = .ok (.iconst 0, 1) := by decide +kernel
theorem d_Md_tamper_166 : decode prog_12_method_34_code 166 = .ok (.ireturn, 1) := by decide +kernel
theorem d_Md_tamper_167 : decode prog_12_method_34_code 167 = .ok (.aload_n 0, 1) := by decide +kernel
theorem d_Md_tamper_168 : decode prog_12_method_34_code 168 = .ok (.iload_n 1, 1) := by decide +kernel
theorem d_Md_tamper_169 : decode prog_12_method_34_code 169 = .ok (.invokevirtual 191, 3) := by decide +kernel
theorem d_Md_tamper_172 : decode prog_12_method_34_code 172 = .ok (.istore 9, 2) := by decide +kernel
theorem d_Md_tamper_174 : decode prog_12_method_34_code 174 = .ok (.iload_n 2, 1) := by decide +kernel
theorem d_Md_tamper_175 : decode prog_12_method_34_code 175 = .ok (.ifCond .ne (17), 3) := by decide +kernel
theorem d_Md_tamper_178 : decode prog_12_method_34_code 178 = .ok (.aload_n 0, 1) := by decide +kernel
theorem d_Md_tamper_179 : decode prog_12_method_34_code 179 = .ok (.getfield 29, 3) := by decide +kernel
theorem d_Md_tamper_182 : decode prog_12_method_34_code 182 = .ok (.iload 9, 2) := by decide +kernel
theorem d_Md_tamper_184 : decode prog_12_method_34_code 184 = .ok (.dup2, 1) := by decide +kernel
theorem d_Md_tamper_185 : decode prog_12_method_34_code 185 = .ok (.iaload, 1) := by decide +kernel
theorem d_Md_tamper_186 : decode prog_12_method_34_code 186 = .ok (.iconst 1, 1) := by decide +kernel
theorem d_Md_tamper_187 : decode prog_12_method_34_code 187 = .ok (.isub, 1) := by decide +kernel
theorem d_Md_tamper_188 : decode prog_12_method_34_code 188 = .ok (.iastore, 1) := by decide +kernel
theorem d_Md_tamper_189 : decode prog_12_method_34_code 189 = .ok (.goto (175), 3) := by decide +kernel
theorem d_Md_tamper_192 : decode prog_12_method_34_code 192 = .ok (.iload_n 2, 1) := by decide +kernel
theorem d_Md_tamper_193 : decode prog_12_method_34_code 193 = .ok (.iconst 3, 1) := by decide +kernel
theorem d_Md_tamper_194 : decode prog_12_method_34_code 194 = .ok (.if_icmp .ge (41), 3) := by decide +kernel
theorem d_Md_tamper_197 : decode prog_12_method_34_code 197 = .ok (.iconst 0, 1) := by decide +kernel
theorem d_Md_tamper_198 : decode prog_12_method_34_code 198 = .ok (.istore 10, 2) := by decide +kernel
theorem d_Md_tamper_200 : decode prog_12_method_34_code 200 = .ok (.iload 10, 2) := by decide +kernel
theorem d_Md_tamper_202 : decode prog_12_method_34_code 202 = .ok (.iload_n 2, 1) := by decide +kernel
theorem d_Md_tamper_203 : decode prog_12_method_34_code 203 = .ok (.iconst 1, 1) := by decide +kernel
theorem d_Md_tamper_204 : decode prog_12_method_34_code 204 = .ok (.if_icmp .ne (7), 3) := by decide +kernel
theorem d_Md_tamper_207 : decode prog_12_method_34_code 207 = .ok (.iconst 1, 1) := by decide +kernel
theorem d_Md_tamper_208 : decode prog_12_method_34_code 208 = .ok (.goto (4), 3) := by decide +kernel
theorem d_Md_tamper_211 : decode prog_12_method_34_code 211 = .ok (.iconst 5, 1) := by decide +kernel
theorem d_Md_tamper_212 : decode prog_12_method_34_code 212 = .ok (.if_icmp .ge (20), 3) := by decide +kernel
theorem d_Md_tamper_215 : decode prog_12_method_34_code 215 = .ok (.aload_n 0, 1) := by decide +kernel
theorem d_Md_tamper_216 : decode prog_12_method_34_code 216 = .ok (.iload 9, 2) := by decide +kernel
theorem d_Md_tamper_218 : decode prog_12_method_34_code 218 = .ok (.iload_n 3, 1) := by decide +kernel
theorem d_Md_tamper_219 : decode prog_12_method_34_code 219 = .ok (.iload 4, 2) := by decide +kernel
theorem d_Md_tamper_221 : decode prog_12_method_34_code 221 = .ok (.iload 10, 2) := by decide +kernel
theorem d_Md_tamper_223 : decode prog_12_method_34_code 223 = .ok (.invokevirtual 194, 3) := by decide +kernel
theorem d_Md_tamper_226 : decode prog_12_method_34_code 226 = .ok (.iinc 10 (1), 3) := by decide +kernel
theorem d_Md_tamper_229 : decode prog_12_method_34_code 229 = .ok (.goto (-29), 3) := by decide +kernel
theorem d_Md_tamper_232 : decode prog_12_method_34_code 232 = .ok (.goto (132), 3) := by decide +kernel
theorem d_Md_tamper_235 : decode prog_12_method_34_code 235 = .ok (.iload_n 2, 1) := by decide +kernel
theorem d_Md_tamper_236 : decode prog_12_method_34_code 236 = .ok (.iconst 3, 1) := by decide +kernel
theorem d_Md_tamper_237 : decode prog_12_method_34_code 237 = .ok (.if_icmp .ne (24), 3) := by decide +kernel
theorem d_Md_tamper_240 : decode prog_12_method_34_code 240 = .ok (.aload_n 0, 1) := by decide +kernel
theorem d_Md_tamper_241 : decode prog_12_method_34_code 241 = .ok (.getfield 32, 3) := by decide +kernel
theorem d_Md_tamper_244 : decode prog_12_method_34_code 244 = .ok (.bipush (20), 2) := by decide +kernel
theorem d_Md_tamper_246 : decode prog_12_method_34_code 246 = .ok (.iload 9, 2) := by decide +kernel
theorem d_Md_tamper_248 : decode prog_12_method_34_code 248 = .ok (.imul, 1) := by decide +kernel
theorem d_Md_tamper_249 : decode prog_12_method_34_code 249 = .ok (.iconst 5, 1) := by decide +kernel
theorem d_Md_tamper_250 : decode prog_12_method_34_code 250 = .ok (.iload_n 3, 1) := by decide +kernel
theorem d_Md_tamper_251 : decode prog_12_method_34_code 251 = .ok (.imul, 1) := by decide +kernel
theorem d_Md_tamper_252 : decode prog_12_method_34_code 252 = .ok (.iadd, 1) := by decide +kernel
theorem d_Md_tamper_253 : decode prog_12_method_34_code 253 = .ok (.aload_n 0, 1) := by decide +kernel
theorem d_Md_tamper_254 : decode prog_12_method_34_code 254 = .ok (.getfield 175, 3) := by decide +kernel
theorem d_Md_tamper_257 : decode prog_12_method_34_code 257 = .ok (.iastore, 1) := by decide +kernel
theorem d_Md_tamper_258 : decode prog_12_method_34_code 258 = .ok (.goto (106), 3) := by decide +kernel
theorem d_Md_tamper_261 : decode prog_12_method_34_code 261 = .ok (.iload_n 2, 1) := by decide +kernel
theorem d_Md_tamper_262 : decode prog_12_method_34_code 262 = .ok (.bipush (6), 2) := by decide +kernel
theorem d_Md_tamper_264 : decode prog_12_method_34_code 264 = .ok (.if_icmp .ne (36), 3) := by decide +kernel
theorem d_Md_tamper_267 : decode prog_12_method_34_code 267 = .ok (.aload_n 0, 1) := by decide +kernel
theorem d_Md_tamper_268 : decode prog_12_method_34_code 268 = .ok (.iload 9, 2) := by decide +kernel
theorem d_Md_tamper_270 : decode prog_12_method_34_code 270 = .ok (.iload_n 3, 1) := by decide +kernel
theorem d_Md_tamper_271 : decode prog_12_method_34_code 271 = .ok (.aload_n 0, 1) := by decide +kernel
theorem d_Md_tamper_272 : decode prog_12_method_34_code 272 = .ok (.iload 9, 2) := by decide +kernel
theorem d_Md_tamper_274 : decode prog_12_method_34_code 274 = .ok (.iload_n 3, 1) := by decide +kernel
theorem d_Md_tamper_275 : decode prog_12_method_34_code 275 = .ok (.iconst 0, 1) := by decide +kernel
theorem d_Md_tamper_276 : decode prog_12_method_34_code 276 = .ok (.invokevirtual 198, 3) := by decide +kernel
theorem d_Md_tamper_279 : decode prog_12_method_34_code 279 = .ok (.aload_n 0, 1) := by decide +kernel
theorem d_Md_tamper_280 : decode prog_12_method_34_code 280 = .ok (.iload 9, 2) := by decide +kernel
theorem d_Md_tamper_282 : decode prog_12_method_34_code 282 = .ok (.iload_n 3, 1) := by decide +kernel
theorem d_Md_tamper_283 : decode prog_12_method_34_code 283 = .ok (.iconst 1, 1) := by decide +kernel
theorem d_Md_tamper_284 : decode prog_12_method_34_code 284 = .ok (.invokevirtual 198, 3) := by decide +kernel
theorem d_Md_tamper_287 : decode prog_12_method_34_code 287 = .ok (.aload_n 0, 1) := by decide +kernel
theorem d_Md_tamper_288 : decode prog_12_method_34_code 288 = .ok (.getfield 39, 3) := by decide +kernel
theorem d_Md_tamper_291 : decode prog_12_method_34_code 291 = .ok (.iload 9, 2) := by decide +kernel
theorem d_Md_tamper_293 : decode prog_12_method_34_code 293 = .ok (.iaload, 1) := by decide +kernel
theorem d_Md_tamper_294 : decode prog_12_method_34_code 294 = .ok (.invokevirtual 184, 3) := by decide +kernel
theorem d_Md_tamper_297 : decode prog_12_method_34_code 297 = .ok (.goto (67), 3) := by decide +kernel
theorem d_Md_tamper_300 : decode prog_12_method_34_code 300 = .ok (.aload_n 0, 1) := by decide +kernel
theorem d_Md_tamper_301 : decode prog_12_method_34_code 301 = .ok (.dup, 1) := by decide +kernel
theorem d_Md_tamper_302 : decode prog_12_method_34_code 302 = .ok (.getfield 19, 3) := by decide +kernel
theorem d_Md_tamper_305 : decode prog_12_method_34_code 305 = .ok (.iconst 1, 1) := by decide +kernel
theorem d_Md_tamper_306 : decode prog_12_method_34_code 306 = .ok (.iadd, 1) := by decide +kernel
theorem d_Md_tamper_307 : decode prog_12_method_34_code 307 = .ok (.putfield 19, 3) := by decide +kernel
theorem d_Md_tamper_310 : decode prog_12_method_34_code 310 = .ok (.aload_n 0, 1) := by decide +kernel
theorem d_Md_tamper_311 : decode prog_12_method_34_code 311 = .ok (.getfield 32, 3) := by decide +kernel
theorem d_Md_tamper_314 : decode prog_12_method_34_code 314 = .ok (.bipush (20), 2) := by decide +kernel
theorem d_Md_tamper_316 : decode prog_12_method_34_code 316 = .ok (.iload 9, 2) := by decide +kernel
theorem d_Md_tamper_318 : decode prog_12_method_34_code 318 = .ok (.imul, 1) := by decide +kernel
theorem d_Md_tamper_319 : decode prog_12_method_34_code 319 = .ok (.iconst 5, 1) := by decide +kernel
theorem d_Md_tamper_320 : decode prog_12_method_34_code 320 = .ok (.iload_n 3, 1) := by decide +kernel
theorem d_Md_tamper_321 : decode prog_12_method_34_code 321 = .ok (.imul, 1) := by decide +kernel
theorem d_Md_tamper_322 : decode prog_12_method_34_code 322 = .ok (.iadd, 1) := by decide +kernel
theorem d_Md_tamper_323 : decode prog_12_method_34_code 323 = .ok (.iconst 1, 1) := by decide +kernel
theorem d_Md_tamper_324 : decode prog_12_method_34_code 324 = .ok (.iadd, 1) := by decide +kernel
theorem d_Md_tamper_325 : decode prog_12_method_34_code 325 = .ok (.aload_n 0, 1) := by decide +kernel
theorem d_Md_tamper_326 : decode prog_12_method_34_code 326 = .ok (.getfield 19, 3) := by decide +kernel
theorem d_Md_tamper_329 : decode prog_12_method_34_code 329 = .ok (.iastore, 1) := by decide +kernel
theorem d_Md_tamper_330 : decode prog_12_method_34_code 330 = .ok (.iload_n 2, 1) := by decide +kernel
theorem d_Md_tamper_331 : decode prog_12_method_34_code 331 = .ok (.iconst 5, 1) := by decide +kernel
theorem d_Md_tamper_332 : decode prog_12_method_34_code 332 = .ok (.if_icmp .ne (32), 3) := by decide +kernel
theorem d_Md_tamper_335 : decode prog_12_method_34_code 335 = .ok (.aload_n 0, 1) := by decide +kernel
theorem d_Md_tamper_336 : decode prog_12_method_34_code 336 = .ok (.getfield 29, 3) := by decide +kernel
theorem d_Md_tamper_339 : decode prog_12_method_34_code 339 = .ok (.iload 9, 2) := by decide +kernel
theorem d_Md_tamper_341 : decode prog_12_method_34_code 341 = .ok (.iload_n 3, 1) := by decide +kernel
theorem d_Md_tamper_342 : decode prog_12_method_34_code 342 = .ok (.iconst 1, 1) := by decide +kernel
theorem d_Md_tamper_343 : decode prog_12_method_34_code 343 = .ok (.iadd, 1) := by decide +kernel
theorem d_Md_tamper_344 : decode prog_12_method_34_code 344 = .ok (.iastore, 1) := by decide +kernel
theorem d_Md_tamper_345 : decode prog_12_method_34_code 345 = .ok (.aload_n 0, 1) := by decide +kernel
theorem d_Md_tamper_346 : decode prog_12_method_34_code 346 = .ok (.getfield 35, 3) := by decide +kernel
theorem d_Md_tamper_349 : decode prog_12_method_34_code 349 = .ok (.iload 9, 2) := by decide +kernel
theorem d_Md_tamper_351 : decode prog_12_method_34_code 351 = .ok (.iconst 0, 1) := by decide +kernel
theorem d_Md_tamper_352 : decode prog_12_method_34_code 352 = .ok (.bastore, 1) := by decide +kernel
theorem d_Md_tamper_353 : decode prog_12_method_34_code 353 = .ok (.aload_n 0, 1) := by decide +kernel
theorem d_Md_tamper_354 : decode prog_12_method_34_code 354 = .ok (.getfield 39, 3) := by decide +kernel
theorem d_Md_tamper_357 : decode prog_12_method_34_code 357 = .ok (.iload 9, 2) := by decide +kernel
theorem d_Md_tamper_359 : decode prog_12_method_34_code 359 = .ok (.aload_n 0, 1) := by decide +kernel
theorem d_Md_tamper_360 : decode prog_12_method_34_code 360 = .ok (.getfield 19, 3) := by decide +kernel
theorem d_Md_tamper_363 : decode prog_12_method_34_code 363 = .ok (.iastore, 1) := by decide +kernel
theorem d_Md_tamper_364 : decode prog_12_method_34_code 364 = .ok (.iload 9, 2) := by decide +kernel
theorem d_Md_tamper_366 : decode prog_12_method_34_code 366 = .ok (.ireturn, 1) := by decide +kernel
theorem d_Md_change_0 : decode prog_12_method_33_code 0 = .ok (.aload_n 0, 1) := by decide +kernel
theorem d_Md_change_1 : decode prog_12_method_33_code 1 = .ok (.getfield 32, 3) := by decide +kernel
theorem d_Md_change_4 : decode prog_12_method_33_code 4 = .ok (.bipush (20), 2) := by decide +kernel
theorem d_Md_change_6 : decode prog_12_method_33_code 6 = .ok (.iload_n 1, 1) := by decide +kernel
theorem d_Md_change_7 : decode prog_12_method_33_code 7 = .ok (.imul, 1) := by decide +kernel
theorem d_Md_change_8 : decode prog_12_method_33_code 8 = .ok (.iconst 5, 1) := by decide +kernel
theorem d_Md_change_9 : decode prog_12_method_33_code 9 = .ok (.iload_n 2, 1) := by decide +kernel
theorem d_Md_change_10 : decode prog_12_method_33_code 10 = .ok (.imul, 1) := by decide +kernel
theorem d_Md_change_11 : decode prog_12_method_33_code 11 = .ok (.iadd, 1) := by decide +kernel
theorem d_Md_change_12 : decode prog_12_method_33_code 12 = .ok (.iload 4, 2) := by decide +kernel
theorem d_Md_change_14 : decode prog_12_method_33_code 14 = .ok (.iadd, 1) := by decide +kernel
theorem d_Md_change_15 : decode prog_12_method_33_code 15 = .ok (.iaload, 1) := by decide +kernel
theorem d_Md_change_16 : decode prog_12_method_33_code 16 = .ok (.istore 5, 2) := by decide +kernel
theorem d_Md_change_18 : decode prog_12_method_33_code 18 = .ok (.aload_n 0, 1) := by decide +kernel
theorem d_Md_change_19 : decode prog_12_method_33_code 19 = .ok (.getfield 32, 3) := by decide +kernel
theorem d_Md_change_22 : decode prog_12_method_33_code 22 = .ok (.bipush (20), 2) := by decide +kernel
theorem d_Md_change_24 : decode prog_12_method_33_code 24 = .ok (.iload_n 1, 1) := by decide +kernel
theorem d_Md_change_25 : decode prog_12_method_33_code 25 = .ok (.imul, 1) := by decide +kernel
theorem d_Md_change_26 : decode prog_12_method_33_code 26 = .ok (.iconst 5, 1) := by decide +kernel
theorem d_Md_change_27 : decode prog_12_method_33_code 27 = .ok (.iload_n 2, 1) := by decide +kernel
theorem d_Md_change_28 : decode prog_12_method_33_code 28 = .ok (.imul, 1) := by decide +kernel
theorem d_Md_change_29 : decode prog_12_method_33_code 29 = .ok (.iadd, 1) := by decide +kernel
theorem d_Md_change_30 : decode prog_12_method_33_code 30 = .ok (.iload 4, 2) := by decide +kernel
theorem d_Md_change_32 : decode prog_12_method_33_code 32 = .ok (.iadd, 1) := by decide +kernel
theorem d_Md_change_33 : decode prog_12_method_33_code 33 = .ok (.aload_n 0, 1) := by decide +kernel
theorem d_Md_change_34 : decode prog_12_method_33_code 34 = .ok (.getfield 32, 3) := by decide +kernel
theorem d_Md_change_37 : decode prog_12_method_33_code 37 = .ok (.bipush (20), 2) := by decide +kernel
theorem d_Md_change_39 : decode prog_12_method_33_code 39 = .ok (.iload_n 1, 1) := by decide +kernel
theorem d_Md_change_40 : decode prog_12_method_33_code 40 = .ok (.imul, 1) := by decide +kernel
theorem d_Md_change_41 : decode prog_12_method_33_code 41 = .ok (.iconst 5, 1) := by decide +kernel
theorem d_Md_change_42 : decode prog_12_method_33_code 42 = .ok (.iload_n 3, 1) := by decide +kernel
theorem d_Md_change_43 : decode prog_12_method_33_code 43 = .ok (.imul, 1) := by decide +kernel
theorem d_Md_change_44 : decode prog_12_method_33_code 44 = .ok (.iadd, 1) := by decide +kernel
theorem d_Md_change_45 : decode prog_12_method_33_code 45 = .ok (.iload 4, 2) := by decide +kernel
theorem d_Md_change_47 : decode prog_12_method_33_code 47 = .ok (.iadd, 1) := by decide +kernel
theorem d_Md_change_48 : decode prog_12_method_33_code 48 = .ok (.iaload, 1) := by decide +kernel
theorem d_Md_change_49 : decode prog_12_method_33_code 49 = .ok (.iastore, 1) := by decide +kernel
theorem d_Md_change_50 : decode prog_12_method_33_code 50 = .ok (.aload_n 0, 1) := by decide +kernel
theorem d_Md_change_51 : decode prog_12_method_33_code 51 = .ok (.getfield 32, 3) := by decide +kernel
theorem d_Md_change_54 : decode prog_12_method_33_code 54 = .ok (.bipush (20), 2) := by decide +kernel
theorem d_Md_change_56 : decode prog_12_method_33_code 56 = .ok (.iload_n 1, 1) := by decide +kernel
theorem d_Md_change_57 : decode prog_12_method_33_code 57 = .ok (.imul, 1) := by decide +kernel
theorem d_Md_change_58 : decode prog_12_method_33_code 58 = .ok (.iconst 5, 1) := by decide +kernel
theorem d_Md_change_59 : decode prog_12_method_33_code 59 = .ok (.iload_n 3, 1) := by decide +kernel
theorem d_Md_change_60 : decode prog_12_method_33_code 60 = .ok (.imul, 1) := by decide +kernel
theorem d_Md_change_61 : decode prog_12_method_33_code 61 = .ok (.iadd, 1) := by decide +kernel
theorem d_Md_change_62 : decode prog_12_method_33_code 62 = .ok (.iload 4, 2) := by decide +kernel
theorem d_Md_change_64 : decode prog_12_method_33_code 64 = .ok (.iadd, 1) := by decide +kernel
theorem d_Md_change_65 : decode prog_12_method_33_code 65 = .ok (.iload 5, 2) := by decide +kernel
theorem d_Md_change_67 : decode prog_12_method_33_code 67 = .ok (.iastore, 1) := by decide +kernel
theorem d_Md_change_68 : decode prog_12_method_33_code 68 = .ok (.return_, 1) := by decide +kernel
theorem d_Md_link_0 : decode prog_12_method_27_code 0 = .ok (.aload_n 0, 1) := by decide +kernel
theorem d_Md_link_1 : decode prog_12_method_27_code 1 = .ok (.getfield 32, 3) := by decide +kernel
theorem d_Md_link_4 : decode prog_12_method_27_code 4 = .ok (.bipush (20), 2) := by decide +kernel
theorem d_Md_link_6 : decode prog_12_method_27_code 6 = .ok (.iload_n 1, 1) := by decide +kernel
theorem d_Md_link_7 : decode prog_12_method_27_code 7 = .ok (.imul, 1) := by decide +kernel
theorem d_Md_link_8 : decode prog_12_method_27_code 8 = .ok (.iconst 5, 1) := by decide +kernel
theorem d_Md_link_9 : decode prog_12_method_27_code 9 = .ok (.iload_n 2, 1) := by decide +kernel
theorem d_Md_link_10 : decode prog_12_method_27_code 10 = .ok (.imul, 1) := by decide +kernel
theorem d_Md_link_11 : decode prog_12_method_27_code 11 = .ok (.iadd, 1) := by decide +kernel
theorem d_Md_link_12 : decode prog_12_method_27_code 12 = .ok (.iload_n 3, 1) := by decide +kernel
theorem d_Md_link_13 : decode prog_12_method_27_code 13 = .ok (.iadd, 1) := by decide +kernel
theorem d_Md_link_14 : decode prog_12_method_27_code 14 = .ok (.iaload, 1) := by decide +kernel
theorem d_Md_link_15 : decode prog_12_method_27_code 15 = .ok (.ireturn, 1) := by decide +kernel
theorem d_Md_limits_0 : decode prog_12_method_36_code 0 = .ok (.aload_n 0, 1) := by decide +kernel
theorem d_Md_limits_1 : decode prog_12_method_36_code 1 = .ok (.iconst 0, 1) := by decide +kernel
theorem d_Md_limits_2 : decode prog_12_method_36_code 2 = .ok (.putfield 84, 3) := by decide +kernel
theorem d_Md_limits_5 : decode prog_12_method_36_code 5 = .ok (.iload_n 1, 1) := by decide +kernel
theorem d_Md_limits_6 : decode prog_12_method_36_code 6 = .ok (.iconst 1, 1) := by decide +kernel
theorem d_Md_limits_7 : decode prog_12_method_36_code 7 = .ok (.if_icmp .lt (20), 3) := by decide +kernel
theorem d_Md_limits_10 : decode prog_12_method_36_code 10 = .ok (.iload_n 1, 1) := by decide +kernel
theorem d_Md_limits_11 : decode prog_12_method_36_code 11 = .ok (.bipush (30), 2) := by decide +kernel
theorem d_Md_limits_13 : decode prog_12_method_36_code 13 = .ok (.if_icmp .gt (14), 3) := by decide +kernel
theorem d_Md_limits_16 : decode prog_12_method_36_code 16 = .ok (.iload_n 2, 1) := by decide +kernel
theorem d_Md_limits_17 : decode prog_12_method_36_code 17 = .ok (.iconst 1, 1) := by decide +kernel
theorem d_Md_limits_18 : decode prog_12_method_36_code 18 = .ok (.if_icmp .lt (9), 3) := by decide +kernel
theorem d_Md_limits_21 : decode prog_12_method_36_code 21 = .ok (.iload_n 2, 1) := by decide +kernel
theorem d_Md_limits_22 : decode prog_12_method_36_code 22 = .ok (.bipush (12), 2) := by decide +kernel
theorem d_Md_limits_24 : decode prog_12_method_36_code 24 = .ok (.if_icmp .le (5), 3) := by decide +kernel
theorem d_Md_limits_27 : decode prog_12_method_36_code 27 = .ok (.iconst 0, 1) := by decide +kernel
theorem d_Md_limits_28 : decode prog_12_method_36_code 28 = .ok (.ireturn, 1) := by decide +kernel
theorem d_Md_limits_29 : decode prog_12_method_36_code 29 = .ok (.aload_n 0, 1) := by decide +kernel
theorem d_Md_limits_30 : decode prog_12_method_36_code 30 = .ok (.iload_n 1, 1) := by decide +kernel
theorem d_Md_limits_31 : decode prog_12_method_36_code 31 = .ok (.putfield 23, 3) := by decide +kernel
theorem d_Md_limits_34 : decode prog_12_method_36_code 34 = .ok (.aload_n 0, 1) := by decide +kernel
theorem d_Md_limits_35 : decode prog_12_method_36_code 35 = .ok (.iload_n 2, 1) := by decide +kernel
theorem d_Md_limits_36 : decode prog_12_method_36_code 36 = .ok (.putfield 26, 3) := by decide +kernel
theorem d_Md_limits_39 : decode prog_12_method_36_code 39 = .ok (.iconst 1, 1) := by decide +kernel
theorem d_Md_limits_40 : decode prog_12_method_36_code 40 = .ok (.ireturn, 1) := by decide +kernel
theorem d_Md_authorize_0 : decode prog_12_method_50_code 0 = .ok (.aload_n 0, 1) := by decide +kernel
theorem d_Md_authorize_1 : decode prog_12_method_50_code 1 = .ok (.aload_n 0, 1) := by decide +kernel
theorem d_Md_authorize_2 : decode prog_12_method_50_code 2 = .ok (.iload_n 1, 1) := by decide +kernel
theorem d_Md_authorize_3 : decode prog_12_method_50_code 3 = .ok (.invokevirtual 188, 3) := by decide +kernel
theorem d_Md_authorize_6 : decode prog_12_method_50_code 6 = .ok (.ifCond .ne (7), 3) := by decide +kernel
theorem d_Md_authorize_9 : decode prog_12_method_50_code 9 = .ok (.iconst 1, 1) := by decide +kernel
theorem d_Md_authorize_10 : decode prog_12_method_50_code 10 = .ok (.goto (18), 3) := by decide +kernel
theorem d_Md_authorize_13 : decode prog_12_method_50_code 13 = .ok (.iload_n 2, 1) := by decide +kernel
theorem d_Md_authorize_14 : decode prog_12_method_50_code 14 = .ok (.iconst 1, 1) := by decide +kernel
theorem d_Md_authorize_15 : decode prog_12_method_50_code 15 = .ok (.if_icmp .lt (8), 3) := by decide +kernel
theorem d_Md_authorize_18 : decode prog_12_method_50_code 18 = .ok (.iload_n 2, 1) := by decide +kernel
theorem d_Md_authorize_19 : decode prog_12_method_50_code 19 = .ok (.iconst 3, 1) := by decide +kernel
theorem d_Md_authorize_20 : decode prog_12_method_50_code 20 = .ok (.if_icmp .le (7), 3) := by decide +kernel
theorem d_Md_authorize_23 : decode prog_12_method_50_code 23 = .ok (.iconst 2, 1) := by decide +kernel
theorem d_Md_authorize_24 : decode prog_12_method_50_code 24 = .ok (.goto (4), 3) := by decide +kernel
theorem d_Md_authorize_27 : decode prog_12_method_50_code 27 = .ok (.iconst 0, 1) := by decide +kernel
theorem d_Md_authorize_28 : decode prog_12_method_50_code 28 = .ok (.putfield 84, 3) := by decide +kernel
theorem d_Md_authorize_31 : decode prog_12_method_50_code 31 = .ok (.aload_n 0, 1) := by decide +kernel
theorem d_Md_authorize_32 : decode prog_12_method_50_code 32 = .ok (.getfield 84, 3) := by decide +kernel
theorem d_Md_authorize_35 : decode prog_12_method_50_code 35 = .ok (.ifCond .le (5), 3) := by decide +kernel
theorem d_Md_authorize_38 : decode prog_12_method_50_code 38 = .ok (.iconst 0, 1) := by decide +kernel
theorem d_Md_authorize_39 : decode prog_12_method_50_code 39 = .ok (.ireturn, 1) := by decide +kernel
theorem d_Md_authorize_40 : decode prog_12_method_50_code 40 = .ok (.aload_n 0, 1) := by decide +kernel
theorem d_Md_authorize_41 : decode prog_12_method_50_code 41 = .ok (.iconst 0, 1) := by decide +kernel
theorem d_Md_authorize_42 : decode prog_12_method_50_code 42 = .ok (.putfield 258, 3) := by decide +kernel
theorem d_Md_authorize_45 : decode prog_12_method_50_code 45 = .ok (.aload_n 0, 1) := by decide +kernel
theorem d_Md_authorize_46 : decode prog_12_method_50_code 46 = .ok (.iconst 0, 1) := by decide +kernel
theorem d_Md_authorize_47 : decode prog_12_method_50_code 47 = .ok (.putfield 202, 3) := by decide +kernel
theorem d_Md_authorize_50 : decode prog_12_method_50_code 50 = .ok (.aload_n 0, 1) := by decide +kernel
theorem d_Md_authorize_51 : decode prog_12_method_50_code 51 = .ok (.iconst 0, 1) := by decide +kernel
theorem d_Md_authorize_52 : decode prog_12_method_50_code 52 = .ok (.putfield 264, 3) := by decide +kernel
theorem d_Md_authorize_55 : decode prog_12_method_50_code 55 = .ok (.aload_n 0, 1) := by decide +kernel
theorem d_Md_authorize_56 : decode prog_12_method_50_code 56 = .ok (.iload_n 1, 1) := by decide +kernel
theorem d_Md_authorize_57 : decode prog_12_method_50_code 57 = .ok (.iload_n 2, 1) := by decide +kernel
theorem d_Md_authorize_58 : decode prog_12_method_50_code 58 = .ok (.invokevirtual 267, 3) := by decide +kernel
theorem d_Md_authorize_61 : decode prog_12_method_50_code 61 = .ok (.ifCond .ne (13), 3) := by decide +kernel
theorem d_Md_authorize_64 : decode prog_12_method_50_code 64 = .ok (.aload_n 0, 1) := by decide +kernel
theorem d_Md_authorize_65 : decode prog_12_method_50_code 65 = .ok (.iconst (-1), 1) := by decide +kernel
theorem d_Md_authorize_66 : decode prog_12_method_50_code 66 = .ok (.putfield 271, 3) := by decide +kernel
theorem d_Md_authorize_69 : decode prog_12_method_50_code 69 = .ok (.aload_n 0, 1) := by decide +kernel
theorem d_Md_authorize_70 : decode prog_12_method_50_code 70 = .ok (.getfield 271, 3) := by decide +kernel
theorem d_Md_authorize_73 : decode prog_12_method_50_code 73 = .ok (.ireturn, 1) := by decide +kernel
theorem d_Md_authorize_74 : decode prog_12_method_50_code 74 = .ok (.aload_n 0, 1) := by decide +kernel
theorem d_Md_authorize_75 : decode prog_12_method_50_code 75 = .ok (.iload_n 1, 1) := by decide +kernel
theorem d_Md_authorize_76 : decode prog_12_method_50_code 76 = .ok (.invokevirtual 274, 3) := by decide +kernel
theorem d_Md_authorize_79 : decode prog_12_method_50_code 79 = .ok (.aload_n 0, 1) := by decide +kernel
theorem d_Md_authorize_80 : decode prog_12_method_50_code 80 = .ok (.invokevirtual 277, 3) := by decide +kernel
theorem d_Md_authorize_83 : decode prog_12_method_50_code 83 = .ok (.ifCond .eq (14), 3) := by decide +kernel
theorem d_Md_authorize_86 : decode prog_12_method_50_code 86 = .ok (.aload_n 0, 1) := by decide +kernel
theorem d_Md_authorize_87 : decode prog_12_method_50_code 87 = .ok (.aload_n 0, 1) := by decide +kernel
theorem d_Md_authorize_88 : decode prog_12_method_50_code 88 = .ok (.invokevirtual 280, 3) := by decide +kernel
theorem d_Md_authorize_91 : decode prog_12_method_50_code 91 = .ok (.putfield 271, 3) := by decide +kernel
theorem d_Md_authorize_94 : decode prog_12_method_50_code 94 = .ok (.goto (14), 3) := by decide +kernel
theorem d_Md_authorize_97 : decode prog_12_method_50_code 97 = .ok (.aload_n 0, 1) := by decide +kernel
theorem d_Md_authorize_98 : decode prog_12_method_50_code 98 = .ok (.bipush (-2), 2) := by decide +kernel
theorem d_Md_authorize_100 : decode prog_12_method_50_code 100 = .ok (.putfield 271, 3) := by decide +kernel
theorem d_Md_authorize_103 : decode prog_12_method_50_code 103 = .ok (.aload_n 0, 1) := by decide +kernel
theorem d_Md_authorize_104 : decode prog_12_method_50_code 104 = .ok (.iconst 0, 1) := by decide +kernel
theorem d_Md_authorize_105 : decode prog_12_method_50_code 105 = .ok (.putfield 202, 3) := by decide +kernel
theorem d_Md_authorize_108 : decode prog_12_method_50_code 108 = .ok (.aload_n 0, 1) := by decide +kernel
theorem d_Md_authorize_109 : decode prog_12_method_50_code 109 = .ok (.getfield 271, 3) := by decide +kernel
theorem d_Md_authorize_112 : decode prog_12_method_50_code 112 = .ok (.ireturn, 1) := by decide +kernel
theorem d_Md_right_0 : decode prog_12_method_35_code 0 = .ok (.iload_n 2, 1) := by decide +kernel
theorem d_Md_right_1 : decode prog_12_method_35_code 1 = .ok (.istore_n 3, 1) := by decide +kernel
theorem d_Md_right_2 : decode prog_12_method_35_code 2 = .ok (.iconst 0, 1) := by decide +kernel
theorem d_Md_right_3 : decode prog_12_method_35_code 3 = .ok (.istore 4, 2) := by decide +kernel
theorem d_Md_right_5 : decode prog_12_method_35_code 5 = .ok (.iload 4, 2) := by decide +kernel
theorem d_Md_right_7 : decode prog_12_method_35_code 7 = .ok (.aload_n 0, 1) := by decide +kernel
theorem d_Md_right_8 : decode prog_12_method_35_code 8 = .ok (.getfield 29, 3) := by decide +kernel
theorem d_Md_right_11 : decode prog_12_method_35_code 11 = .ok (.iload_n 1, 1) := by decide +kernel
theorem d_Md_right_12 : decode prog_12_method_35_code 12 = .ok (.iaload, 1) := by decide +kernel
theorem d_Md_right_13 : decode prog_12_method_35_code 13 = .ok (.if_icmp .ge (70), 3) := by decide +kernel
theorem d_Md_right_16 : decode prog_12_method_35_code 16 = .ok (.aload_n 0, 1) := by decide +kernel
theorem d_Md_right_17 : decode prog_12_method_35_code 17 = .ok (.iload_n 1, 1) := by decide +kernel
theorem d_Md_right_18 : decode prog_12_method_35_code 18 = .ok (.iload 4, 2) := by decide +kernel
theorem d_Md_right_20 : decode prog_12_method_35_code 20 = .ok (.iconst 2, 1) := by decide +kernel
theorem d_Md_right_21 : decode prog_12_method_35_code 21 = .ok (.invokevirtual 198, 3) := by decide +kernel
theorem d_Md_right_24 : decode prog_12_method_35_code 24 = .ok (.iload_n 3, 1) := by decide +kernel
theorem d_Md_right_25 : decode prog_12_method_35_code 25 = .ok (.if_icmp .ne (41), 3) := by decide +kernel
theorem d_Md_right_28 : decode prog_12_method_35_code 28 = .ok (.aload_n 0, 1) := by decide +kernel
theorem d_Md_right_29 : decode prog_12_method_35_code 29 = .ok (.iload_n 1, 1) := by decide +kernel
theorem d_Md_right_30 : decode prog_12_method_35_code 30 = .ok (.iload 4, 2) := by decide +kernel
theorem d_Md_right_32 : decode prog_12_method_35_code 32 = .ok (.iconst 3, 1) := by decide +kernel
theorem d_Md_right_33 : decode prog_12_method_35_code 33 = .ok (.invokevirtual 198, 3) := by decide +kernel
theorem d_Md_right_36 : decode prog_12_method_35_code 36 = .ok (.aload_n 0, 1) := by decide +kernel
theorem d_Md_right_37 : decode prog_12_method_35_code 37 = .ok (.iload_n 1, 1) := by decide +kernel
theorem d_Md_right_38 : decode prog_12_method_35_code 38 = .ok (.iload 4, 2) := by decide +kernel
theorem d_Md_right_40 : decode prog_12_method_35_code 40 = .ok (.iconst 0, 1) := by decide +kernel
theorem d_Md_right_41 : decode prog_12_method_35_code 41 = .ok (.invokevirtual 198, 3) := by decide +kernel
theorem d_Md_right_44 : decode prog_12_method_35_code 44 = .ok (.if_icmp .ne (22), 3) := by decide +kernel
theorem d_Md_right_47 : decode prog_12_method_35_code 47 = .ok (.aload_n 0, 1) := by decide +kernel
theorem d_Md_right_48 : decode prog_12_method_35_code 48 = .ok (.iload_n 1, 1) := by decide +kernel
theorem d_Md_right_49 : decode prog_12_method_35_code 49 = .ok (.iload 4, 2) := by decide +kernel
theorem d_Md_right_51 : decode prog_12_method_35_code 51 = .ok (.iconst 4, 1) := by decide +kernel
theorem d_Md_right_52 : decode prog_12_method_35_code 52 = .ok (.invokevirtual 198, 3) := by decide +kernel
theorem d_Md_right_55 : decode prog_12_method_35_code 55 = .ok (.aload_n 0, 1) := by decide +kernel
theorem d_Md_right_56 : decode prog_12_method_35_code 56 = .ok (.iload_n 1, 1) := by decide +kernel
theorem d_Md_right_57 : decode prog_12_method_35_code 57 = .ok (.iload 4, 2) := by decide +kernel
theorem d_Md_right_59 : decode prog_12_method_35_code 59 = .ok (.iconst 1, 1) := by decide +kernel
theorem d_Md_right_60 : decode prog_12_method_35_code 60 = .ok (.invokevirtual 198, 3) := by decide +kernel
theorem d_Md_right_63 : decode prog_12_method_35_code 63 = .ok (.if_icmp .eq (5), 3) := by decide +kernel
theorem d_Md_right_66 : decode prog_12_method_35_code 66 = .ok (.iconst 0, 1) := by decide +kernel
theorem d_Md_right_67 : decode prog_12_method_35_code 67 = .ok (.ireturn, 1) := by decide +kernel
theorem d_Md_right_68 : decode prog_12_method_35_code 68 = .ok (.aload_n 0, 1) := by decide +kernel
theorem d_Md_right_69 : decode prog_12_method_35_code 69 = .ok (.iload_n 1, 1) := by decide +kernel
theorem d_Md_right_70 : decode prog_12_method_35_code 70 = .ok (.iload 4, 2) := by decide +kernel
theorem d_Md_right_72 : decode prog_12_method_35_code 72 = .ok (.iconst 1, 1) := by decide +kernel
theorem d_Md_right_73 : decode prog_12_method_35_code 73 = .ok (.invokevirtual 198, 3) := by decide +kernel
theorem d_Md_right_76 : decode prog_12_method_35_code 76 = .ok (.istore_n 3, 1) := by decide +kernel
theorem d_Md_right_77 : decode prog_12_method_35_code 77 = .ok (.iinc 4 (1), 3) := by decide +kernel
theorem d_Md_right_80 : decode prog_12_method_35_code 80 = .ok (.goto (-75), 3) := by decide +kernel
theorem d_Md_right_83 : decode prog_12_method_35_code 83 = .ok (.aload_n 0, 1) := by decide +kernel
theorem d_Md_right_84 : decode prog_12_method_35_code 84 = .ok (.getfield 39, 3) := by decide +kernel
theorem d_Md_right_87 : decode prog_12_method_35_code 87 = .ok (.iload_n 1, 1) := by decide +kernel
theorem d_Md_right_88 : decode prog_12_method_35_code 88 = .ok (.iaload, 1) := by decide +kernel
theorem d_Md_right_89 : decode prog_12_method_35_code 89 = .ok (.iload_n 3, 1) := by decide +kernel
theorem d_Md_right_90 : decode prog_12_method_35_code 90 = .ok (.if_icmp .ne (31), 3) := by decide +kernel
theorem d_Md_right_93 : decode prog_12_method_35_code 93 = .ok (.aload_n 0, 1) := by decide +kernel
theorem d_Md_right_94 : decode prog_12_method_35_code 94 = .ok (.getfield 35, 3) := by decide +kernel
theorem d_Md_right_97 : decode prog_12_method_35_code 97 = .ok (.iload_n 1, 1) := by decide +kernel
theorem d_Md_right_98 : decode prog_12_method_35_code 98 = .ok (.baload, 1) := by decide +kernel
theorem d_Md_right_99 : decode prog_12_method_35_code 99 = .ok (.ifCond .eq (18), 3) := by decide +kernel
theorem d_Md_right_102 : decode prog_12_method_35_code 102 = .ok (.aload_n 0, 1) := by decide +kernel
theorem d_Md_right_103 : decode prog_12_method_35_code 103 = .ok (.getfield 42, 3) := by decide +kernel
theorem d_Md_right_106 : decode prog_12_method_35_code 106 = .ok (.iload_n 1, 1) := by decide +kernel
theorem d_Md_right_107 : decode prog_12_method_35_code 107 = .ok (.iaload, 1) := by decide +kernel
theorem d_Md_right_108 : decode prog_12_method_35_code 108 = .ok (.aload_n 0, 1) := by decide +kernel
theorem d_Md_right_109 : decode prog_12_method_35_code 109 = .ok (.getfield 29, 3) := by decide +kernel
theorem d_Md_right_112 : decode prog_12_method_35_code 112 = .ok (.iload_n 1, 1) := by decide +kernel
theorem d_Md_right_113 : decode prog_12_method_35_code 113 = .ok (.iaload, 1) := by decide +kernel
theorem d_Md_right_114 : decode prog_12_method_35_code 114 = .ok (.if_icmp .ne (7), 3) := by decide +kernel
theorem d_Md_right_117 : decode prog_12_method_35_code 117 = .ok (.iconst 1, 1) := by decide +kernel
theorem d_Md_right_118 : decode prog_12_method_35_code 118 = .ok (.goto (4), 3) := by decide +kernel
theorem d_Md_right_121 : decode prog_12_method_35_code 121 = .ok (.iconst 0, 1) := by decide +kernel
theorem d_Md_right_122 : decode prog_12_method_35_code 122 = .ok (.ireturn, 1) := by decide +kernel
