theorem d_Md_body_0 : decode prog_12_method_9_code 0 = .ok (.iconst 0, 1) := by decide +kernel
theorem d_Md_body_1 : decode prog_12_method_9_code 1 = .ok (.istore_n 1, 1) := by decide +kernel
theorem d_Md_body_2 : decode prog_12_method_9_code 2 = .ok (.iconst 1, 1) := by decide +kernel
theorem d_Md_body_3 : decode prog_12_method_9_code 3 = .ok (.istore_n 2, 1) := by decide +kernel
theorem d_Md_body_4 : decode prog_12_method_9_code 4 = .ok (.iload_n 2, 1) := by decide +kernel
theorem d_Md_body_5 : decode prog_12_method_9_code 5 = .ok (.ifCond .eq (154), 3) := by decide +kernel
theorem d_Md_body_8 : decode prog_12_method_9_code 8 = .ok (.aload_n 0, 1) := by decide +kernel
theorem d_Md_body_9 : decode prog_12_method_9_code 9 = .ok (.getfield 108, 3) := by decide +kernel
theorem d_Md_body_12 : decode prog_12_method_9_code 12 = .ok (.ifCond .ne (147), 3) := by decide +kernel
theorem d_Md_body_15 : decode prog_12_method_9_code 15 = .ok (.aload_n 0, 1) := by decide +kernel
theorem d_Md_body_16 : decode prog_12_method_9_code 16 = .ok (.invokevirtual 96, 3) := by decide +kernel
theorem d_Md_body_19 : decode prog_12_method_9_code 19 = .ok (.istore_n 3, 1) := by decide +kernel
theorem d_Md_body_20 : decode prog_12_method_9_code 20 = .ok (.iload_n 3, 1) := by decide +kernel
theorem d_Md_body_21 : decode prog_12_method_9_code 21 = .ok (.bipush (97), 2) := by decide +kernel
theorem d_Md_body_23 : decode prog_12_method_9_code 23 = .ok (.if_icmp .lt (71), 3) := by decide +kernel
theorem d_Md_body_26 : decode prog_12_method_9_code 26 = .ok (.iload_n 3, 1) := by decide +kernel
theorem d_Md_body_27 : decode prog_12_method_9_code 27 = .ok (.bipush (122), 2) := by decide +kernel
theorem d_Md_body_29 : decode prog_12_method_9_code 29 = .ok (.if_icmp .gt (65), 3) := by decide +kernel
theorem d_Md_body_32 : decode prog_12_method_9_code 32 = .ok (.iload_n 1, 1) := by decide +kernel
theorem d_Md_body_33 : decode prog_12_method_9_code 33 = .ok (.ifCond .ne (61), 3) := by decide +kernel
theorem d_Md_body_36 : decode prog_12_method_9_code 36 = .ok (.aload_n 0, 1) := by decide +kernel
theorem d_Md_body_37 : decode prog_12_method_9_code 37 = .ok (.getfield 54, 3) := by decide +kernel
theorem d_Md_body_40 : decode prog_12_method_9_code 40 = .ok (.aload_n 0, 1) := by decide +kernel
theorem d_Md_body_41 : decode prog_12_method_9_code 41 = .ok (.getfield 112, 3) := by decide +kernel
theorem d_Md_body_44 : decode prog_12_method_9_code 44 = .ok (.dup2, 1) := by decide +kernel
theorem d_Md_body_45 : decode prog_12_method_9_code 45 = .ok (.iaload, 1) := by decide +kernel
theorem d_Md_body_46 : decode prog_12_method_9_code 46 = .ok (.iconst 1, 1) := by decide +kernel
theorem d_Md_body_47 : decode prog_12_method_9_code 47 = .ok (.iadd, 1) := by decide +kernel
theorem d_Md_body_48 : decode prog_12_method_9_code 48 = .ok (.iastore, 1) := by decide +kernel
theorem d_Md_body_49 : decode prog_12_method_9_code 49 = .ok (.aload_n 0, 1) := by decide +kernel
theorem d_Md_body_50 : decode prog_12_method_9_code 50 = .ok (.aload_n 0, 1) := by decide +kernel
theorem d_Md_body_51 : decode prog_12_method_9_code 51 = .ok (.getfield 54, 3) := by decide +kernel
theorem d_Md_body_54 : decode prog_12_method_9_code 54 = .ok (.aload_n 0, 1) := by decide +kernel
theorem d_Md_body_55 : decode prog_12_method_9_code 55 = .ok (.getfield 112, 3) := by decide +kernel
theorem d_Md_body_58 : decode prog_12_method_9_code 58 = .ok (.iaload, 1) := by decide +kernel
theorem d_Md_body_59 : decode prog_12_method_9_code 59 = .ok (.iconst 3, 1) := by decide +kernel
theorem d_Md_body_60 : decode prog_12_method_9_code 60 = .ok (.if_icmp .le (7), 3) := by decide +kernel
theorem d_Md_body_63 : decode prog_12_method_9_code 63 = .ok (.iconst 1, 1) := by decide +kernel
theorem d_Md_body_64 : decode prog_12_method_9_code 64 = .ok (.goto (4), 3) := by decide +kernel
theorem d_Md_body_67 : decode prog_12_method_9_code 67 = .ok (.iconst 0, 1) := by decide +kernel
theorem d_Md_body_68 : decode prog_12_method_9_code 68 = .ok (.putfield 108, 3) := by decide +kernel
theorem d_Md_body_71 : decode prog_12_method_9_code 71 = .ok (.aload_n 0, 1) := by decide +kernel
theorem d_Md_body_72 : decode prog_12_method_9_code 72 = .ok (.getfield 108, 3) := by decide +kernel
theorem d_Md_body_75 : decode prog_12_method_9_code 75 = .ok (.ifCond .ne (59), 3) := by decide +kernel
theorem d_Md_body_78 : decode prog_12_method_9_code 78 = .ok (.aload_n 0, 1) := by decide +kernel
theorem d_Md_body_79 : decode prog_12_method_9_code 79 = .ok (.aload_n 0, 1) := by decide +kernel
theorem d_Md_body_80 : decode prog_12_method_9_code 80 = .ok (.getfield 54, 3) := by decide +kernel
theorem d_Md_body_83 : decode prog_12_method_9_code 83 = .ok (.aload_n 0, 1) := by decide +kernel
theorem d_Md_body_84 : decode prog_12_method_9_code 84 = .ok (.getfield 112, 3) := by decide +kernel
theorem d_Md_body_87 : decode prog_12_method_9_code 87 = .ok (.iaload, 1) := by decide +kernel
theorem d_Md_body_88 : decode prog_12_method_9_code 88 = .ok (.invokevirtual 121, 3) := by decide +kernel
theorem d_Md_body_91 : decode prog_12_method_9_code 91 = .ok (.goto (43), 3) := by decide +kernel
theorem d_Md_body_94 : decode prog_12_method_9_code 94 = .ok (.iinc 1 (1), 3) := by decide +kernel
theorem d_Md_body_97 : decode prog_12_method_9_code 97 = .ok (.aload_n 0, 1) := by decide +kernel
theorem d_Md_body_98 : decode prog_12_method_9_code 98 = .ok (.iload_n 1, 1) := by decide +kernel
theorem d_Md_body_99 : decode prog_12_method_9_code 99 = .ok (.iconst 2, 1) := by decide +kernel
theorem d_Md_body_100 : decode prog_12_method_9_code 100 = .ok (.if_icmp .gt (15), 3) := by decide +kernel
theorem d_Md_body_103 : decode prog_12_method_9_code 103 = .ok (.aload_n 0, 1) := by decide +kernel
theorem d_Md_body_104 : decode prog_12_method_9_code 104 = .ok (.getfield 54, 3) := by decide +kernel
theorem d_Md_body_107 : decode prog_12_method_9_code 107 = .ok (.aload_n 0, 1) := by decide +kernel
theorem d_Md_body_108 : decode prog_12_method_9_code 108 = .ok (.getfield 112, 3) := by decide +kernel
theorem d_Md_body_111 : decode prog_12_method_9_code 111 = .ok (.iaload, 1) := by decide +kernel
theorem d_Md_body_112 : decode prog_12_method_9_code 112 = .ok (.ifCond .ne (7), 3) := by decide +kernel
theorem d_Md_body_115 : decode prog_12_method_9_code 115 = .ok (.iconst 1, 1) := by decide +kernel
theorem d_Md_body_116 : decode prog_12_method_9_code 116 = .ok (.goto (4), 3) := by decide +kernel
theorem d_Md_body_119 : decode prog_12_method_9_code 119 = .ok (.iconst 0, 1) := by decide +kernel
theorem d_Md_body_120 : decode prog_12_method_9_code 120 = .ok (.putfield 108, 3) := by decide +kernel
theorem d_Md_body_123 : decode prog_12_method_9_code 123 = .ok (.aload_n 0, 1) := by decide +kernel
theorem d_Md_body_124 : decode prog_12_method_9_code 124 = .ok (.getfield 108, 3) := by decide +kernel
theorem d_Md_body_127 : decode prog_12_method_9_code 127 = .ok (.ifCond .ne (7), 3) := by decide +kernel
theorem d_Md_body_130 : decode prog_12_method_9_code 130 = .ok (.aload_n 0, 1) := by decide +kernel
theorem d_Md_body_131 : decode prog_12_method_9_code 131 = .ok (.invokevirtual 131, 3) := by decide +kernel
theorem d_Md_body_134 : decode prog_12_method_9_code 134 = .ok (.aload_n 0, 1) := by decide +kernel
theorem d_Md_body_135 : decode prog_12_method_9_code 135 = .ok (.getfield 108, 3) := by decide +kernel
theorem d_Md_body_138 : decode prog_12_method_9_code 138 = .ok (.ifCond .ne (16), 3) := by decide +kernel
theorem d_Md_body_141 : decode prog_12_method_9_code 141 = .ok (.aload_n 0, 1) := by decide +kernel
theorem d_Md_body_142 : decode prog_12_method_9_code 142 = .ok (.bipush (44), 2) := by decide +kernel
theorem d_Md_body_144 : decode prog_12_method_9_code 144 = .ok (.invokevirtual 125, 3) := by decide +kernel
theorem d_Md_body_147 : decode prog_12_method_9_code 147 = .ok (.ifCond .eq (7), 3) := by decide +kernel
theorem d_Md_body_150 : decode prog_12_method_9_code 150 = .ok (.iconst 1, 1) := by decide +kernel
theorem d_Md_body_151 : decode prog_12_method_9_code 151 = .ok (.goto (4), 3) := by decide +kernel
theorem d_Md_body_154 : decode prog_12_method_9_code 154 = .ok (.iconst 0, 1) := by decide +kernel
theorem d_Md_body_155 : decode prog_12_method_9_code 155 = .ok (.istore_n 2, 1) := by decide +kernel
theorem d_Md_body_156 : decode prog_12_method_9_code 156 = .ok (.goto (-152), 3) := by decide +kernel
theorem d_Md_body_159 : decode prog_12_method_9_code 159 = .ok (.return_, 1) := by decide +kernel
theorem d_Md_comparison_0 : decode prog_12_method_13_code 0 = .ok (.aload_n 0, 1) := by decide +kernel
theorem d_Md_comparison_1 : decode prog_12_method_13_code 1 = .ok (.invokevirtual 141, 3) := by decide +kernel
theorem d_Md_comparison_4 : decode prog_12_method_13_code 4 = .ok (.aload_n 0, 1) := by decide +kernel
theorem d_Md_comparison_5 : decode prog_12_method_13_code 5 = .ok (.invokevirtual 96, 3) := by decide +kernel
theorem d_Md_comparison_8 : decode prog_12_method_13_code 8 = .ok (.istore_n 1, 1) := by decide +kernel
theorem d_Md_comparison_9 : decode prog_12_method_13_code 9 = .ok (.iload_n 1, 1) := by decide +kernel
theorem d_Md_comparison_10 : decode prog_12_method_13_code 10 = .ok (.bipush (60), 2) := by decide +kernel
theorem d_Md_comparison_12 : decode prog_12_method_13_code 12 = .ok (.if_icmp .ne (8), 3) := by decide +kernel
theorem d_Md_comparison_15 : decode prog_12_method_13_code 15 = .ok (.bipush (-21), 2) := by decide +kernel
theorem d_Md_comparison_17 : decode prog_12_method_13_code 17 = .ok (.goto (37), 3) := by decide +kernel
theorem d_Md_comparison_20 : decode prog_12_method_13_code 20 = .ok (.iload_n 1, 1) := by decide +kernel
theorem d_Md_comparison_21 : decode prog_12_method_13_code 21 = .ok (.bipush (62), 2) := by decide +kernel
theorem d_Md_comparison_23 : decode prog_12_method_13_code 23 = .ok (.if_icmp .ne (8), 3) := by decide +kernel
theorem d_Md_comparison_26 : decode prog_12_method_13_code 26 = .ok (.bipush (-22), 2) := by decide +kernel
theorem d_Md_comparison_28 : decode prog_12_method_13_code 28 = .ok (.goto (26), 3) := by decide +kernel
theorem d_Md_comparison_31 : decode prog_12_method_13_code 31 = .ok (.iload_n 1, 1) := by decide +kernel
theorem d_Md_comparison_32 : decode prog_12_method_13_code 32 = .ok (.bipush (61), 2) := by decide +kernel
theorem d_Md_comparison_34 : decode prog_12_method_13_code 34 = .ok (.if_icmp .ne (8), 3) := by decide +kernel
theorem d_Md_comparison_37 : decode prog_12_method_13_code 37 = .ok (.bipush (-23), 2) := by decide +kernel
theorem d_Md_comparison_39 : decode prog_12_method_13_code 39 = .ok (.goto (15), 3) := by decide +kernel
theorem d_Md_comparison_42 : decode prog_12_method_13_code 42 = .ok (.iload_n 1, 1) := by decide +kernel
theorem d_Md_comparison_43 : decode prog_12_method_13_code 43 = .ok (.bipush (35), 2) := by decide +kernel
theorem d_Md_comparison_45 : decode prog_12_method_13_code 45 = .ok (.if_icmp .ne (8), 3) := by decide +kernel
theorem d_Md_comparison_48 : decode prog_12_method_13_code 48 = .ok (.bipush (-24), 2) := by decide +kernel
theorem d_Md_comparison_50 : decode prog_12_method_13_code 50 = .ok (.goto (4), 3) := by decide +kernel
theorem d_Md_comparison_53 : decode prog_12_method_13_code 53 = .ok (.iconst 0, 1) := by decide +kernel
theorem d_Md_comparison_54 : decode prog_12_method_13_code 54 = .ok (.istore_n 2, 1) := by decide +kernel
theorem d_Md_comparison_55 : decode prog_12_method_13_code 55 = .ok (.aload_n 0, 1) := by decide +kernel
theorem d_Md_comparison_56 : decode prog_12_method_13_code 56 = .ok (.aload_n 0, 1) := by decide +kernel
theorem d_Md_comparison_57 : decode prog_12_method_13_code 57 = .ok (.getfield 108, 3) := by decide +kernel
theorem d_Md_comparison_60 : decode prog_12_method_13_code 60 = .ok (.ifCond .ne (7), 3) := by decide +kernel
theorem d_Md_comparison_63 : decode prog_12_method_13_code 63 = .ok (.iload_n 2, 1) := by decide +kernel
theorem d_Md_comparison_64 : decode prog_12_method_13_code 64 = .ok (.ifCond .ne (7), 3) := by decide +kernel
theorem d_Md_comparison_67 : decode prog_12_method_13_code 67 = .ok (.iconst 1, 1) := by decide +kernel
theorem d_Md_comparison_68 : decode prog_12_method_13_code 68 = .ok (.goto (4), 3) := by decide +kernel
theorem d_Md_comparison_71 : decode prog_12_method_13_code 71 = .ok (.iconst 0, 1) := by decide +kernel
theorem d_Md_comparison_72 : decode prog_12_method_13_code 72 = .ok (.putfield 108, 3) := by decide +kernel
theorem d_Md_comparison_75 : decode prog_12_method_13_code 75 = .ok (.aload_n 0, 1) := by decide +kernel
theorem d_Md_comparison_76 : decode prog_12_method_13_code 76 = .ok (.dup, 1) := by decide +kernel
theorem d_Md_comparison_77 : decode prog_12_method_13_code 77 = .ok (.getfield 87, 3) := by decide +kernel
theorem d_Md_comparison_80 : decode prog_12_method_13_code 80 = .ok (.iconst 1, 1) := by decide +kernel
theorem d_Md_comparison_81 : decode prog_12_method_13_code 81 = .ok (.iadd, 1) := by decide +kernel
theorem d_Md_comparison_82 : decode prog_12_method_13_code 82 = .ok (.putfield 87, 3) := by decide +kernel
theorem d_Md_comparison_85 : decode prog_12_method_13_code 85 = .ok (.aload_n 0, 1) := by decide +kernel
theorem d_Md_comparison_86 : decode prog_12_method_13_code 86 = .ok (.getfield 108, 3) := by decide +kernel
theorem d_Md_comparison_89 : decode prog_12_method_13_code 89 = .ok (.ifCond .ne (7), 3) := by decide +kernel
theorem d_Md_comparison_92 : decode prog_12_method_13_code 92 = .ok (.aload_n 0, 1) := by decide +kernel
theorem d_Md_comparison_93 : decode prog_12_method_13_code 93 = .ok (.invokevirtual 141, 3) := by decide +kernel
theorem d_Md_comparison_96 : decode prog_12_method_13_code 96 = .ok (.aload_n 0, 1) := by decide +kernel
theorem d_Md_comparison_97 : decode prog_12_method_13_code 97 = .ok (.getfield 108, 3) := by decide +kernel
theorem d_Md_comparison_100 : decode prog_12_method_13_code 100 = .ok (.ifCond .ne (8), 3) := by decide +kernel
theorem d_Md_comparison_103 : decode prog_12_method_13_code 103 = .ok (.aload_n 0, 1) := by decide +kernel
theorem d_Md_comparison_104 : decode prog_12_method_13_code 104 = .ok (.iload_n 2, 1) := by decide +kernel
theorem d_Md_comparison_105 : decode prog_12_method_13_code 105 = .ok (.invokevirtual 144, 3) := by decide +kernel
theorem d_Md_comparison_108 : decode prog_12_method_13_code 108 = .ok (.return_, 1) := by decide +kernel
theorem d_Md_sum_0 : decode prog_12_method_17_code 0 = .ok (.aload_n 0, 1) := by decide +kernel
theorem d_Md_sum_1 : decode prog_12_method_17_code 1 = .ok (.iconst 0, 1) := by decide +kernel
theorem d_Md_sum_2 : decode prog_12_method_17_code 2 = .ok (.putfield 147, 3) := by decide +kernel
theorem d_Md_sum_5 : decode prog_12_method_17_code 5 = .ok (.iconst 0, 1) := by decide +kernel
theorem d_Md_sum_6 : decode prog_12_method_17_code 6 = .ok (.istore_n 1, 1) := by decide +kernel
theorem d_Md_sum_7 : decode prog_12_method_17_code 7 = .ok (.iconst 1, 1) := by decide +kernel
theorem d_Md_sum_8 : decode prog_12_method_17_code 8 = .ok (.istore_n 2, 1) := by decide +kernel
theorem d_Md_sum_9 : decode prog_12_method_17_code 9 = .ok (.iconst 1, 1) := by decide +kernel
theorem d_Md_sum_10 : decode prog_12_method_17_code 10 = .ok (.istore_n 3, 1) := by decide +kernel
theorem d_Md_sum_11 : decode prog_12_method_17_code 11 = .ok (.iload_n 3, 1) := by decide +kernel
theorem d_Md_sum_12 : decode prog_12_method_17_code 12 = .ok (.ifCond .eq (253), 3) := by decide +kernel
theorem d_Md_sum_15 : decode prog_12_method_17_code 15 = .ok (.aload_n 0, 1) := by decide +kernel
theorem d_Md_sum_16 : decode prog_12_method_17_code 16 = .ok (.getfield 108, 3) := by decide +kernel
theorem d_Md_sum_19 : decode prog_12_method_17_code 19 = .ok (.ifCond .ne (246), 3) := by decide +kernel
theorem d_Md_sum_22 : decode prog_12_method_17_code 22 = .ok (.aload_n 0, 1) := by decide +kernel
theorem d_Md_sum_23 : decode prog_12_method_17_code 23 = .ok (.invokevirtual 96, 3) := by decide +kernel
theorem d_Md_sum_26 : decode prog_12_method_17_code 26 = .ok (.istore 4, 2) := by decide +kernel
theorem d_Md_sum_28 : decode prog_12_method_17_code 28 = .ok (.iload_n 2, 1) := by decide +kernel
theorem d_Md_sum_29 : decode prog_12_method_17_code 29 = .ok (.ifCond .eq (124), 3) := by decide +kernel
theorem d_Md_sum_32 : decode prog_12_method_17_code 32 = .ok (.iload 4, 2) := by decide +kernel
theorem d_Md_sum_34 : decode prog_12_method_17_code 34 = .ok (.bipush (40), 2) := by decide +kernel
theorem d_Md_sum_36 : decode prog_12_method_17_code 36 = .ok (.if_icmp .ne (7), 3) := by decide +kernel
theorem d_Md_sum_39 : decode prog_12_method_17_code 39 = .ok (.iconst 1, 1) := by decide +kernel
theorem d_Md_sum_40 : decode prog_12_method_17_code 40 = .ok (.goto (4), 3) := by decide +kernel
theorem d_Md_sum_43 : decode prog_12_method_17_code 43 = .ok (.iconst 0, 1) := by decide +kernel
theorem d_Md_sum_44 : decode prog_12_method_17_code 44 = .ok (.istore_n 2, 1) := by decide +kernel
theorem d_Md_sum_45 : decode prog_12_method_17_code 45 = .ok (.iload 4, 2) := by decide +kernel
theorem d_Md_sum_47 : decode prog_12_method_17_code 47 = .ok (.bipush (40), 2) := by decide +kernel
theorem d_Md_sum_49 : decode prog_12_method_17_code 49 = .ok (.if_icmp .ne (39), 3) := by decide +kernel
theorem d_Md_sum_52 : decode prog_12_method_17_code 52 = .ok (.iinc 1 (1), 3) := by decide +kernel
theorem d_Md_sum_55 : decode prog_12_method_17_code 55 = .ok (.aload_n 0, 1) := by decide +kernel
theorem d_Md_sum_56 : decode prog_12_method_17_code 56 = .ok (.iload_n 1, 1) := by decide +kernel
theorem d_Md_sum_57 : decode prog_12_method_17_code 57 = .ok (.iconst 4, 1) := by decide +kernel
theorem d_Md_sum_58 : decode prog_12_method_17_code 58 = .ok (.if_icmp .le (7), 3) := by decide +kernel
theorem d_Md_sum_61 : decode prog_12_method_17_code 61 = .ok (.iconst 1, 1) := by decide +kernel
theorem d_Md_sum_62 : decode prog_12_method_17_code 62 = .ok (.goto (4), 3) := by decide +kernel
theorem d_Md_sum_65 : decode prog_12_method_17_code 65 = .ok (.iconst 0, 1) := by decide +kernel
theorem d_Md_sum_66 : decode prog_12_method_17_code 66 = .ok (.putfield 108, 3) := by decide +kernel
theorem d_Md_sum_69 : decode prog_12_method_17_code 69 = .ok (.aload_n 0, 1) := by decide +kernel
theorem d_Md_sum_70 : decode prog_12_method_17_code 70 = .ok (.iload 4, 2) := by decide +kernel
theorem d_Md_sum_72 : decode prog_12_method_17_code 72 = .ok (.invokevirtual 153, 3) := by decide +kernel
theorem d_Md_sum_75 : decode prog_12_method_17_code 75 = .ok (.aload_n 0, 1) := by decide +kernel
theorem d_Md_sum_76 : decode prog_12_method_17_code 76 = .ok (.dup, 1) := by decide +kernel
theorem d_Md_sum_77 : decode prog_12_method_17_code 77 = .ok (.getfield 87, 3) := by decide +kernel
theorem d_Md_sum_80 : decode prog_12_method_17_code 80 = .ok (.iconst 1, 1) := by decide +kernel
theorem d_Md_sum_81 : decode prog_12_method_17_code 81 = .ok (.iadd, 1) := by decide +kernel
theorem d_Md_sum_82 : decode prog_12_method_17_code 82 = .ok (.putfield 87, 3) := by decide +kernel
theorem d_Md_sum_85 : decode prog_12_method_17_code 85 = .ok (.goto (177), 3) := by decide +kernel
theorem d_Md_sum_88 : decode prog_12_method_17_code 88 = .ok (.iload 4, 2) := by decide +kernel
theorem d_Md_sum_90 : decode prog_12_method_17_code 90 = .ok (.bipush (65), 2) := by decide +kernel
theorem d_Md_sum_92 : decode prog_12_method_17_code 92 = .ok (.if_icmp .lt (50), 3) := by decide +kernel
theorem d_Md_sum_95 : decode prog_12_method_17_code 95 = .ok (.iload 4, 2) := by decide +kernel
theorem d_Md_sum_97 : decode prog_12_method_17_code 97 = .ok (.bipush (72), 2) := by decide +kernel
theorem d_Md_sum_99 : decode prog_12_method_17_code 99 = .ok (.if_icmp .gt (43), 3) := by decide +kernel
theorem d_Md_sum_102 : decode prog_12_method_17_code 102 = .ok (.aload_n 0, 1) := by decide +kernel
theorem d_Md_sum_103 : decode prog_12_method_17_code 103 = .ok (.dup, 1) := by decide +kernel
theorem d_Md_sum_104 : decode prog_12_method_17_code 104 = .ok (.getfield 118, 3) := by decide +kernel
theorem d_Md_sum_107 : decode prog_12_method_17_code 107 = .ok (.iconst 1, 1) := by decide +kernel
theorem d_Md_sum_108 : decode prog_12_method_17_code 108 = .ok (.iload 4, 2) := by decide +kernel
theorem d_Md_sum_110 : decode prog_12_method_17_code 110 = .ok (.bipush (65), 2) := by decide +kernel
theorem d_Md_sum_112 : decode prog_12_method_17_code 112 = .ok (.isub, 1) := by decide +kernel
theorem d_Md_sum_113 : decode prog_12_method_17_code 113 = .ok (.ishl, 1) := by decide +kernel
theorem d_Md_sum_114 : decode prog_12_method_17_code 114 = .ok (.ior, 1) := by decide +kernel
theorem d_Md_sum_115 : decode prog_12_method_17_code 115 = .ok (.putfield 118, 3) := by decide +kernel
theorem d_Md_sum_118 : decode prog_12_method_17_code 118 = .ok (.aload_n 0, 1) := by decide +kernel
theorem d_Md_sum_119 : decode prog_12_method_17_code 119 = .ok (.bipush (65), 2) := by decide +kernel
theorem d_Md_sum_121 : decode prog_12_method_17_code 121 = .ok (.iload 4, 2) := by decide +kernel
theorem d_Md_sum_123 : decode prog_12_method_17_code 123 = .ok (.isub, 1) := by decide +kernel
theorem d_Md_sum_124 : decode prog_12_method_17_code 124 = .ok (.iconst 1, 1) := by decide +kernel
theorem d_Md_sum_125 : decode prog_12_method_17_code 125 = .ok (.isub, 1) := by decide +kernel
theorem d_Md_sum_126 : decode prog_12_method_17_code 126 = .ok (.invokevirtual 144, 3) := by decide +kernel
theorem d_Md_sum_129 : decode prog_12_method_17_code 129 = .ok (.aload_n 0, 1) := by decide +kernel
theorem d_Md_sum_130 : decode prog_12_method_17_code 130 = .ok (.dup, 1) := by decide +kernel
theorem d_Md_sum_131 : decode prog_12_method_17_code 131 = .ok (.getfield 87, 3) := by decide +kernel
theorem d_Md_sum_134 : decode prog_12_method_17_code 134 = .ok (.iconst 1, 1) := by decide +kernel
theorem d_Md_sum_135 : decode prog_12_method_17_code 135 = .ok (.iadd, 1) := by decide +kernel
theorem d_Md_sum_136 : decode prog_12_method_17_code 136 = .ok (.putfield 87, 3) := by decide +kernel
theorem d_Md_sum_139 : decode prog_12_method_17_code 139 = .ok (.goto (123), 3) := by decide +kernel
theorem d_Md_sum_142 : decode prog_12_method_17_code 142 = .ok (.aload_n 0, 1) := by decide +kernel
theorem d_Md_sum_143 : decode prog_12_method_17_code 143 = .ok (.aload_n 0, 1) := by decide +kernel
theorem d_Md_sum_144 : decode prog_12_method_17_code 144 = .ok (.invokevirtual 138, 3) := by decide +kernel
theorem d_Md_sum_147 : decode prog_12_method_17_code 147 = .ok (.invokevirtual 144, 3) := by decide +kernel
theorem d_Md_sum_150 : decode prog_12_method_17_code 150 = .ok (.goto (112), 3) := by decide +kernel
theorem d_Md_sum_153 : decode prog_12_method_17_code 153 = .ok (.iload 4, 2) := by decide +kernel
theorem d_Md_sum_155 : decode prog_12_method_17_code 155 = .ok (.bipush (41), 2) := by decide +kernel
theorem d_Md_sum_157 : decode prog_12_method_17_code 157 = .ok (.if_icmp .ne (38), 3) := by decide +kernel
theorem d_Md_sum_160 : decode prog_12_method_17_code 160 = .ok (.iload_n 1, 1) := by decide +kernel
theorem d_Md_sum_161 : decode prog_12_method_17_code 161 = .ok (.ifCond .le (34), 3) := by decide +kernel
theorem d_Md_sum_164 : decode prog_12_method_17_code 164 = .ok (.aload_n 0, 1) := by decide +kernel
theorem d_Md_sum_165 : decode prog_12_method_17_code 165 = .ok (.iconst 0, 1) := by decide +kernel
theorem d_Md_sum_166 : decode prog_12_method_17_code 166 = .ok (.invokevirtual 156, 3) := by decide +kernel
theorem d_Md_sum_169 : decode prog_12_method_17_code 169 = .ok (.aload_n 0, 1) := by decide +kernel
theorem d_Md_sum_170 : decode prog_12_method_17_code 170 = .ok (.dup, 1) := by decide +kernel
theorem d_Md_sum_171 : decode prog_12_method_17_code 171 = .ok (.getfield 147, 3) := by decide +kernel
theorem d_Md_sum_174 : decode prog_12_method_17_code 174 = .ok (.iconst 1, 1) := by decide +kernel
theorem d_Md_sum_175 : decode prog_12_method_17_code 175 = .ok (.isub, 1) := by decide +kernel
theorem d_Md_sum_176 : decode prog_12_method_17_code 176 = .ok (.putfield 147, 3) := by decide +kernel
theorem d_Md_sum_179 : decode prog_12_method_17_code 179 = .ok (.iinc 1 (-1), 3) := by decide +kernel
theorem d_Md_sum_182 : decode prog_12_method_17_code 182 = .ok (.aload_n 0, 1) := by decide +kernel
theorem d_Md_sum_183 : decode prog_12_method_17_code 183 = .ok (.dup, 1) := by decide +kernel
theorem d_Md_sum_184 : decode prog_12_method_17_code 184 = .ok (.getfield 87, 3) := by decide +kernel
theorem d_Md_sum_187 : decode prog_12_method_17_code 187 = .ok (.iconst 1, 1) := by decide +kernel
theorem d_Md_sum_188 : decode prog_12_method_17_code 188 = .ok (.iadd, 1) := by decide +kernel
theorem d_Md_sum_189 : decode prog_12_method_17_code 189 = .ok (.putfield 87, 3) := by decide +kernel
theorem d_Md_sum_192 : decode prog_12_method_17_code 192 = .ok (.goto (70), 3) := by decide +kernel
theorem d_Md_sum_195 : decode prog_12_method_17_code 195 = .ok (.iload 4, 2) := by decide +kernel
theorem d_Md_sum_197 : decode prog_12_method_17_code 197 = .ok (.bipush (43), 2) := by decide +kernel
theorem d_Md_sum_199 : decode prog_12_method_17_code 199 = .ok (.if_icmp .eq (31), 3) := by decide +kernel
theorem d_Md_sum_202 : decode prog_12_method_17_code 202 = .ok (.iload 4, 2) := by decide +kernel
theorem d_Md_sum_204 : decode prog_12_method_17_code 204 = .ok (.bipush (45), 2) := by decide +kernel
theorem d_Md_sum_206 : decode prog_12_method_17_code 206 = .ok (.if_icmp .eq (24), 3) := by decide +kernel
theorem d_Md_sum_209 : decode prog_12_method_17_code 209 = .ok (.iload 4, 2) := by decide +kernel
theorem d_Md_sum_211 : decode prog_12_method_17_code 211 = .ok (.bipush (47), 2) := by decide +kernel
theorem d_Md_sum_213 : decode prog_12_method_17_code 213 = .ok (.if_icmp .eq (17), 3) := by decide +kernel
theorem d_Md_sum_216 : decode prog_12_method_17_code 216 = .ok (.iload 4, 2) := by decide +kernel
theorem d_Md_sum_218 : decode prog_12_method_17_code 218 = .ok (.bipush (42), 2) := by decide +kernel
theorem d_Md_sum_220 : decode prog_12_method_17_code 220 = .ok (.if_icmp .ne (40), 3) := by decide +kernel
theorem d_Md_sum_223 : decode prog_12_method_17_code 223 = .ok (.aload_n 0, 1) := by decide +kernel
theorem d_Md_sum_224 : decode prog_12_method_17_code 224 = .ok (.invokevirtual 160, 3) := by decide +kernel
theorem d_Md_sum_227 : decode prog_12_method_17_code 227 = .ok (.ifCond .ne (33), 3) := by decide +kernel
theorem d_Md_sum_230 : decode prog_12_method_17_code 230 = .ok (.aload_n 0, 1) := by decide +kernel
theorem d_Md_sum_231 : decode prog_12_method_17_code 231 = .ok (.iload 4, 2) := by decide +kernel
theorem d_Md_sum_233 : decode prog_12_method_17_code 233 = .ok (.invokestatic 150, 3) := by decide +kernel
theorem d_Md_sum_236 : decode prog_12_method_17_code 236 = .ok (.invokevirtual 156, 3) := by decide +kernel
theorem d_Md_sum_239 : decode prog_12_method_17_code 239 = .ok (.aload_n 0, 1) := by decide +kernel
theorem d_Md_sum_240 : decode prog_12_method_17_code 240 = .ok (.iload 4, 2) := by decide +kernel
theorem d_Md_sum_242 : decode prog_12_method_17_code 242 = .ok (.invokevirtual 153, 3) := by decide +kernel
theorem d_Md_sum_245 : decode prog_12_method_17_code 245 = .ok (.aload_n 0, 1) := by decide +kernel
theorem d_Md_sum_246 : decode prog_12_method_17_code 246 = .ok (.dup, 1) := by decide +kernel
theorem d_Md_sum_247 : decode prog_12_method_17_code 247 = .ok (.getfield 87, 3) := by decide +kernel
theorem d_Md_sum_250 : decode prog_12_method_17_code 250 = .ok (.iconst 1, 1) := by decide +kernel
theorem d_Md_sum_251 : decode prog_12_method_17_code 251 = .ok (.iadd, 1) := by decide +kernel
theorem d_Md_sum_252 : decode prog_12_method_17_code 252 = .ok (.putfield 87, 3) := by decide +kernel
theorem d_Md_sum_255 : decode prog_12_method_17_code 255 = .ok (.iconst 1, 1) := by decide +kernel
theorem d_Md_sum_256 : decode prog_12_method_17_code 256 = .ok (.istore_n 2, 1) := by decide +kernel
theorem d_Md_sum_257 : decode prog_12_method_17_code 257 = .ok (.goto (5), 3) := by decide +kernel
theorem d_Md_sum_260 : decode prog_12_method_17_code 260 = .ok (.iconst 0, 1) := by decide +kernel
theorem d_Md_sum_261 : decode prog_12_method_17_code 261 = .ok (.istore_n 3, 1) := by decide +kernel
theorem d_Md_sum_262 : decode prog_12_method_17_code 262 = .ok (.goto (-251), 3) := by decide +kernel
theorem d_Md_sum_265 : decode prog_12_method_17_code 265 = .ok (.aload_n 0, 1) := by decide +kernel
theorem d_Md_sum_266 : decode prog_12_method_17_code 266 = .ok (.aload_n 0, 1) := by decide +kernel
theorem d_Md_sum_267 : decode prog_12_method_17_code 267 = .ok (.getfield 108, 3) := by decide +kernel
theorem d_Md_sum_270 : decode prog_12_method_17_code 270 = .ok (.ifCond .ne (11), 3) := by decide +kernel
theorem d_Md_sum_273 : decode prog_12_method_17_code 273 = .ok (.iload_n 2, 1) := by decide +kernel
theorem d_Md_sum_274 : decode prog_12_method_17_code 274 = .ok (.ifCond .ne (7), 3) := by decide +kernel
theorem d_Md_sum_277 : decode prog_12_method_17_code 277 = .ok (.iload_n 1, 1) := by decide +kernel
theorem d_Md_sum_278 : decode prog_12_method_17_code 278 = .ok (.ifCond .le (7), 3) := by decide +kernel
theorem d_Md_sum_281 : decode prog_12_method_17_code 281 = .ok (.iconst 1, 1) := by decide +kernel
theorem d_Md_sum_282 : decode prog_12_method_17_code 282 = .ok (.goto (4), 3) := by decide +kernel
theorem d_Md_sum_285 : decode prog_12_method_17_code 285 = .ok (.iconst 0, 1) := by decide +kernel
theorem d_Md_sum_286 : decode prog_12_method_17_code 286 = .ok (.putfield 108, 3) := by decide +kernel
theorem d_Md_sum_289 : decode prog_12_method_17_code 289 = .ok (.aload_n 0, 1) := by decide +kernel
theorem d_Md_sum_290 : decode prog_12_method_17_code 290 = .ok (.iconst 0, 1) := by decide +kernel
theorem d_Md_sum_291 : decode prog_12_method_17_code 291 = .ok (.invokevirtual 156, 3) := by decide +kernel
theorem d_Md_sum_294 : decode prog_12_method_17_code 294 = .ok (.return_, 1) := by decide +kernel
theorem d_Md_push_0 : decode prog_12_method_18_code 0 = .ok (.aload_n 0, 1) := by decide +kernel
theorem d_Md_push_1 : decode prog_12_method_18_code 1 = .ok (.getfield 66, 3) := by decide +kernel
theorem d_Md_push_4 : decode prog_12_method_18_code 4 = .ok (.aload_n 0, 1) := by decide +kernel
theorem d_Md_push_5 : decode prog_12_method_18_code 5 = .ok (.getfield 147, 3) := by decide +kernel
theorem d_Md_push_8 : decode prog_12_method_18_code 8 = .ok (.iload_n 1, 1) := by decide +kernel
theorem d_Md_push_9 : decode prog_12_method_18_code 9 = .ok (.iastore, 1) := by decide +kernel
theorem d_Md_push_10 : decode prog_12_method_18_code 10 = .ok (.aload_n 0, 1) := by decide +kernel
theorem d_Md_push_11 : decode prog_12_method_18_code 11 = .ok (.dup, 1) := by decide +kernel
theorem d_Md_push_12 : decode prog_12_method_18_code 12 = .ok (.getfield 147, 3) := by decide +kernel
theorem d_Md_push_15 : decode prog_12_method_18_code 15 = .ok (.iconst 1, 1) := by decide +kernel
theorem d_Md_push_16 : decode prog_12_method_18_code 16 = .ok (.iadd, 1) := by decide +kernel
theorem d_Md_push_17 : decode prog_12_method_18_code 17 = .ok (.putfield 147, 3) := by decide +kernel
theorem d_Md_push_20 : decode prog_12_method_18_code 20 = .ok (.return_, 1) := by decide +kernel
theorem d_Md_emit_0 : decode prog_12_method_12_code 0 = .ok (.aload_n 0, 1) := by decide +kernel
theorem d_Md_emit_1 : decode prog_12_method_12_code 1 = .ok (.getfield 63, 3) := by decide +kernel
theorem d_Md_emit_4 : decode prog_12_method_12_code 4 = .ok (.bipush (48), 2) := by decide +kernel
theorem d_Md_emit_6 : decode prog_12_method_12_code 6 = .ok (.aload_n 0, 1) := by decide +kernel
theorem d_Md_emit_7 : decode prog_12_method_12_code 7 = .ok (.getfield 112, 3) := by decide +kernel
theorem d_Md_emit_10 : decode prog_12_method_12_code 10 = .ok (.imul, 1) := by decide +kernel
theorem d_Md_emit_11 : decode prog_12_method_12_code 11 = .ok (.aload_n 0, 1) := by decide +kernel
theorem d_Md_emit_12 : decode prog_12_method_12_code 12 = .ok (.getfield 60, 3) := by decide +kernel
theorem d_Md_emit_15 : decode prog_12_method_12_code 15 = .ok (.aload_n 0, 1) := by decide +kernel
theorem d_Md_emit_16 : decode prog_12_method_12_code 16 = .ok (.getfield 112, 3) := by decide +kernel
theorem d_Md_emit_19 : decode prog_12_method_12_code 19 = .ok (.iaload, 1) := by decide +kernel
theorem d_Md_emit_20 : decode prog_12_method_12_code 20 = .ok (.iadd, 1) := by decide +kernel
theorem d_Md_emit_21 : decode prog_12_method_12_code 21 = .ok (.iload_n 1, 1) := by decide +kernel
theorem d_Md_emit_22 : decode prog_12_method_12_code 22 = .ok (.iastore, 1) := by decide +kernel
theorem d_Md_emit_23 : decode prog_12_method_12_code 23 = .ok (.aload_n 0, 1) := by decide +kernel
theorem d_Md_emit_24 : decode prog_12_method_12_code 24 = .ok (.getfield 60, 3) := by decide +kernel
theorem d_Md_emit_27 : decode prog_12_method_12_code 27 = .ok (.aload_n 0, 1) := by decide +kernel
theorem d_Md_emit_28 : decode prog_12_method_12_code 28 = .ok (.getfield 112, 3) := by decide +kernel
theorem d_Md_emit_31 : decode prog_12_method_12_code 31 = .ok (.dup2, 1) := by decide +kernel
theorem d_Md_emit_32 : decode prog_12_method_12_code 32 = .ok (.iaload, 1) := by decide +kernel
theorem d_Md_emit_33 : decode prog_12_method_12_code 33 = .ok (.iconst 1, 1) := by decide +kernel
theorem d_Md_emit_34 : decode prog_12_method_12_code 34 = .ok (.iadd, 1) := by decide +kernel
theorem d_Md_emit_35 : decode prog_12_method_12_code 35 = .ok (.iastore, 1) := by decide +kernel
theorem d_Md_emit_36 : decode prog_12_method_12_code 36 = .ok (.return_, 1) := by decide +kernel
theorem d_Md_flush_0 : decode prog_12_method_15_code 0 = .ok (.aload_n 0, 1) := by decide +kernel
theorem d_Md_flush_1 : decode prog_12_method_15_code 1 = .ok (.getfield 147, 3) := by decide +kernel
theorem d_Md_flush_4 : decode prog_12_method_15_code 4 = .ok (.ifCond .le (102), 3) := by decide +kernel
theorem d_Md_flush_7 : decode prog_12_method_15_code 7 = .ok (.aload_n 0, 1) := by decide +kernel
theorem d_Md_flush_8 : decode prog_12_method_15_code 8 = .ok (.getfield 66, 3) := by decide +kernel
theorem d_Md_flush_11 : decode prog_12_method_15_code 11 = .ok (.aload_n 0, 1) := by decide +kernel
theorem d_Md_flush_12 : decode prog_12_method_15_code 12 = .ok (.getfield 147, 3) := by decide +kernel
theorem d_Md_flush_15 : decode prog_12_method_15_code 15 = .ok (.iconst 1, 1) := by decide +kernel
theorem d_Md_flush_16 : decode prog_12_method_15_code 16 = .ok (.isub, 1) := by decide +kernel
theorem d_Md_flush_17 : decode prog_12_method_15_code 17 = .ok (.iaload, 1) := by decide +kernel
theorem d_Md_flush_18 : decode prog_12_method_15_code 18 = .ok (.bipush (40), 2) := by decide +kernel
theorem d_Md_flush_20 : decode prog_12_method_15_code 20 = .ok (.if_icmp .eq (86), 3) := by decide +kernel
theorem d_Md_flush_23 : decode prog_12_method_15_code 23 = .ok (.iload_n 1, 1) := by decide +kernel
theorem d_Md_flush_24 : decode prog_12_method_15_code 24 = .ok (.ifCond .eq (20), 3) := by decide +kernel
theorem d_Md_flush_27 : decode prog_12_method_15_code 27 = .ok (.aload_n 0, 1) := by decide +kernel
theorem d_Md_flush_28 : decode prog_12_method_15_code 28 = .ok (.getfield 66, 3) := by decide +kernel
theorem d_Md_flush_31 : decode prog_12_method_15_code 31 = .ok (.aload_n 0, 1) := by decide +kernel
theorem d_Md_flush_32 : decode prog_12_method_15_code 32 = .ok (.getfield 147, 3) := by decide +kernel
theorem d_Md_flush_35 : decode prog_12_method_15_code 35 = .ok (.iconst 1, 1) := by decide +kernel
theorem d_Md_flush_36 : decode prog_12_method_15_code 36 = .ok (.isub, 1) := by decide +kernel
theorem d_Md_flush_37 : decode prog_12_method_15_code 37 = .ok (.iaload, 1) := by decide +kernel
theorem d_Md_flush_38 : decode prog_12_method_15_code 38 = .ok (.invokestatic 150, 3) := by decide +kernel
theorem d_Md_flush_41 : decode prog_12_method_15_code 41 = .ok (.ifCond .eq (65), 3) := by decide +kernel
theorem d_Md_flush_44 : decode prog_12_method_15_code 44 = .ok (.aload_n 0, 1) := by decide +kernel
theorem d_Md_flush_45 : decode prog_12_method_15_code 45 = .ok (.dup, 1) := by decide +kernel
theorem d_Md_flush_46 : decode prog_12_method_15_code 46 = .ok (.getfield 147, 3) := by decide +kernel
theorem d_Md_flush_49 : decode prog_12_method_15_code 49 = .ok (.iconst 1, 1) := by decide +kernel
theorem d_Md_flush_50 : decode prog_12_method_15_code 50 = .ok (.isub, 1) := by decide +kernel
theorem d_Md_flush_51 : decode prog_12_method_15_code 51 = .ok (.putfield 147, 3) := by decide +kernel
theorem d_Md_flush_54 : decode prog_12_method_15_code 54 = .ok (.aload_n 0, 1) := by decide +kernel
theorem d_Md_flush_55 : decode prog_12_method_15_code 55 = .ok (.getfield 66, 3) := by decide +kernel
theorem d_Md_flush_58 : decode prog_12_method_15_code 58 = .ok (.aload_n 0, 1) := by decide +kernel
theorem d_Md_flush_59 : decode prog_12_method_15_code 59 = .ok (.getfield 147, 3) := by decide +kernel
theorem d_Md_flush_62 : decode prog_12_method_15_code 62 = .ok (.iaload, 1) := by decide +kernel
theorem d_Md_flush_63 : decode prog_12_method_15_code 63 = .ok (.istore_n 2, 1) := by decide +kernel
theorem d_Md_flush_64 : decode prog_12_method_15_code 64 = .ok (.aload_n 0, 1) := by decide +kernel
theorem d_Md_flush_65 : decode prog_12_method_15_code 65 = .ok (.iload_n 2, 1) := by decide +kernel
theorem d_Md_flush_66 : decode prog_12_method_15_code 66 = .ok (.bipush (43), 2) := by decide +kernel
theorem d_Md_flush_68 : decode prog_12_method_15_code 68 = .ok (.if_icmp .ne (8), 3) := by decide +kernel
theorem d_Md_flush_71 : decode prog_12_method_15_code 71 = .ok (.bipush (-11), 2) := by decide +kernel
theorem d_Md_flush_73 : decode prog_12_method_15_code 73 = .ok (.goto (27), 3) := by decide +kernel
theorem d_Md_flush_76 : decode prog_12_method_15_code 76 = .ok (.iload_n 2, 1) := by decide +kernel
theorem d_Md_flush_77 : decode prog_12_method_15_code 77 = .ok (.bipush (45), 2) := by decide +kernel
theorem d_Md_flush_79 : decode prog_12_method_15_code 79 = .ok (.if_icmp .ne (8), 3) := by decide +kernel
theorem d_Md_flush_82 : decode prog_12_method_15_code 82 = .ok (.bipush (-12), 2) := by decide +kernel
theorem d_Md_flush_84 : decode prog_12_method_15_code 84 = .ok (.goto (16), 3) := by decide +kernel
theorem d_Md_flush_87 : decode prog_12_method_15_code 87 = .ok (.iload_n 2, 1) := by decide +kernel
theorem d_Md_flush_88 : decode prog_12_method_15_code 88 = .ok (.bipush (42), 2) := by decide +kernel
theorem d_Md_flush_90 : decode prog_12_method_15_code 90 = .ok (.if_icmp .ne (8), 3) := by decide +kernel
theorem d_Md_flush_93 : decode prog_12_method_15_code 93 = .ok (.bipush (-13), 2) := by decide +kernel
theorem d_Md_flush_95 : decode prog_12_method_15_code 95 = .ok (.goto (5), 3) := by decide +kernel
theorem d_Md_flush_98 : decode prog_12_method_15_code 98 = .ok (.bipush (-14), 2) := by decide +kernel
theorem d_Md_flush_100 : decode prog_12_method_15_code 100 = .ok (.invokevirtual 144, 3) := by decide +kernel
theorem d_Md_flush_103 : decode prog_12_method_15_code 103 = .ok (.goto (-103), 3) := by decide +kernel
theorem d_Md_flush_106 : decode prog_12_method_15_code 106 = .ok (.return_, 1) := by decide +kernel
theorem d_Md_timesLike_0 : decode prog_12_method_14_code 0 = .ok (.iload_n 0, 1) := by decide +kernel
theorem d_Md_timesLike_1 : decode prog_12_method_14_code 1 = .ok (.bipush (42), 2) := by decide +kernel
theorem d_Md_timesLike_3 : decode prog_12_method_14_code 3 = .ok (.if_icmp .eq (9), 3) := by decide +kernel
theorem d_Md_timesLike_6 : decode prog_12_method_14_code 6 = .ok (.iload_n 0, 1) := by decide +kernel
theorem d_Md_timesLike_7 : decode prog_12_method_14_code 7 = .ok (.bipush (47), 2) := by decide +kernel
theorem d_Md_timesLike_9 : decode prog_12_method_14_code 9 = .ok (.if_icmp .ne (7), 3) := by decide +kernel
theorem d_Md_timesLike_12 : decode prog_12_method_14_code 12 = .ok (.iconst 1, 1) := by decide +kernel
theorem d_Md_timesLike_13 : decode prog_12_method_14_code 13 = .ok (.goto (4), 3) := by decide +kernel
theorem d_Md_timesLike_16 : decode prog_12_method_14_code 16 = .ok (.iconst 0, 1) := by decide +kernel
theorem d_Md_timesLike_17 : decode prog_12_method_14_code 17 = .ok (.ireturn, 1) := by decide +kernel
theorem d_Md_lastStar_0 : decode prog_12_method_16_code 0 = .ok (.iconst 1, 1) := by decide +kernel
theorem d_Md_lastStar_1 : decode prog_12_method_16_code 1 = .ok (.istore_n 1, 1) := by decide +kernel
theorem d_Md_lastStar_2 : decode prog_12_method_16_code 2 = .ok (.aload_n 0, 1) := by decide +kernel
theorem d_Md_lastStar_3 : decode prog_12_method_16_code 3 = .ok (.getfield 87, 3) := by decide +kernel
theorem d_Md_lastStar_6 : decode prog_12_method_16_code 6 = .ok (.iconst 1, 1) := by decide +kernel
theorem d_Md_lastStar_7 : decode prog_12_method_16_code 7 = .ok (.iadd, 1) := by decide +kernel
theorem d_Md_lastStar_8 : decode prog_12_method_16_code 8 = .ok (.istore_n 2, 1) := by decide +kernel
theorem d_Md_lastStar_9 : decode prog_12_method_16_code 9 = .ok (.iload_n 2, 1) := by decide +kernel
theorem d_Md_lastStar_10 : decode prog_12_method_16_code 10 = .ok (.aload_n 0, 1) := by decide +kernel
theorem d_Md_lastStar_11 : decode prog_12_method_16_code 11 = .ok (.getfield 90, 3) := by decide +kernel
theorem d_Md_lastStar_14 : decode prog_12_method_16_code 14 = .ok (.if_icmp .ge (29), 3) := by decide +kernel
theorem d_Md_lastStar_17 : decode prog_12_method_16_code 17 = .ok (.iload_n 1, 1) := by decide +kernel
theorem d_Md_lastStar_18 : decode prog_12_method_16_code 18 = .ok (.ifCond .eq (17), 3) := by decide +kernel
theorem d_Md_lastStar_21 : decode prog_12_method_16_code 21 = .ok (.aload_n 0, 1) := by decide +kernel
theorem d_Md_lastStar_22 : decode prog_12_method_16_code 22 = .ok (.iload_n 2, 1) := by decide +kernel
theorem d_Md_lastStar_23 : decode prog_12_method_16_code 23 = .ok (.invokevirtual 100, 3) := by decide +kernel
theorem d_Md_lastStar_26 : decode prog_12_method_16_code 26 = .ok (.bipush (32), 2) := by decide +kernel
theorem d_Md_lastStar_28 : decode prog_12_method_16_code 28 = .ok (.if_icmp .ne (7), 3) := by decide +kernel
theorem d_Md_lastStar_31 : decode prog_12_method_16_code 31 = .ok (.iconst 1, 1) := by decide +kernel
theorem d_Md_lastStar_32 : decode prog_12_method_16_code 32 = .ok (.goto (4), 3) := by decide +kernel
theorem d_Md_lastStar_35 : decode prog_12_method_16_code 35 = .ok (.iconst 0, 1) := by decide +kernel
theorem d_Md_lastStar_36 : decode prog_12_method_16_code 36 = .ok (.istore_n 1, 1) := by decide +kernel
theorem d_Md_lastStar_37 : decode prog_12_method_16_code 37 = .ok (.iinc 2 (1), 3) := by decide +kernel
theorem d_Md_lastStar_40 : decode prog_12_method_16_code 40 = .ok (.goto (-31), 3) := by decide +kernel
theorem d_Md_lastStar_43 : decode prog_12_method_16_code 43 = .ok (.iload_n 1, 1) := by decide +kernel
theorem d_Md_lastStar_44 : decode prog_12_method_16_code 44 = .ok (.ireturn, 1) := by decide +kernel
theorem d_Md_copy_0 : decode prog_12_method_21_code 0 = .ok (.iconst 0, 1) := by decide +kernel
theorem d_Md_copy_1 : decode prog_12_method_21_code 1 = .ok (.istore_n 3, 1) := by decide +kernel
theorem d_Md_copy_2 : decode prog_12_method_21_code 2 = .ok (.iload_n 3, 1) := by decide +kernel
theorem d_Md_copy_3 : decode prog_12_method_21_code 3 = .ok (.bipush (40), 2) := by decide +kernel
theorem d_Md_copy_5 : decode prog_12_method_21_code 5 = .ok (.if_icmp .ge (31), 3) := by decide +kernel
theorem d_Md_copy_8 : decode prog_12_method_21_code 8 = .ok (.aload_n 0, 1) := by decide +kernel
theorem d_Md_copy_9 : decode prog_12_method_21_code 9 = .ok (.getfield 7, 3) := by decide +kernel
theorem d_Md_copy_12 : decode prog_12_method_21_code 12 = .ok (.bipush (40), 2) := by decide +kernel
theorem d_Md_copy_14 : decode prog_12_method_21_code 14 = .ok (.iload_n 2, 1) := by decide +kernel
theorem d_Md_copy_15 : decode prog_12_method_21_code 15 = .ok (.imul, 1) := by decide +kernel
theorem d_Md_copy_16 : decode prog_12_method_21_code 16 = .ok (.iload_n 3, 1) := by decide +kernel
theorem d_Md_copy_17 : decode prog_12_method_21_code 17 = .ok (.iadd, 1) := by decide +kernel
theorem d_Md_copy_18 : decode prog_12_method_21_code 18 = .ok (.aload_n 0, 1) := by decide +kernel
theorem d_Md_copy_19 : decode prog_12_method_21_code 19 = .ok (.getfield 7, 3) := by decide +kernel
theorem d_Md_copy_22 : decode prog_12_method_21_code 22 = .ok (.bipush (40), 2) := by decide +kernel
theorem d_Md_copy_24 : decode prog_12_method_21_code 24 = .ok (.iload_n 1, 1) := by decide +kernel
theorem d_Md_copy_25 : decode prog_12_method_21_code 25 = .ok (.imul, 1) := by decide +kernel
theorem d_Md_copy_26 : decode prog_12_method_21_code 26 = .ok (.iload_n 3, 1) := by decide +kernel
theorem d_Md_copy_27 : decode prog_12_method_21_code 27 = .ok (.iadd, 1) := by decide +kernel
theorem d_Md_copy_28 : decode prog_12_method_21_code 28 = .ok (.iaload, 1) := by decide +kernel
theorem d_Md_copy_29 : decode prog_12_method_21_code 29 = .ok (.iastore, 1) := by decide +kernel
theorem d_Md_copy_30 : decode prog_12_method_21_code 30 = .ok (.iinc 3 (1), 3) := by decide +kernel
theorem d_Md_copy_33 : decode prog_12_method_21_code 33 = .ok (.goto (-31), 3) := by decide +kernel
theorem d_Md_copy_36 : decode prog_12_method_21_code 36 = .ok (.aload_n 0, 1) := by decide +kernel
theorem d_Md_copy_37 : decode prog_12_method_21_code 37 = .ok (.getfield 13, 3) := by decide +kernel
theorem d_Md_copy_40 : decode prog_12_method_21_code 40 = .ok (.iload_n 2, 1) := by decide +kernel
theorem d_Md_copy_41 : decode prog_12_method_21_code 41 = .ok (.aload_n 0, 1) := by decide +kernel
theorem d_Md_copy_42 : decode prog_12_method_21_code 42 = .ok (.getfield 13, 3) := by decide +kernel
theorem d_Md_copy_45 : decode prog_12_method_21_code 45 = .ok (.iload_n 1, 1) := by decide +kernel
theorem d_Md_copy_46 : decode prog_12_method_21_code 46 = .ok (.iaload, 1) := by decide +kernel
theorem d_Md_copy_47 : decode prog_12_method_21_code 47 = .ok (.iastore, 1) := by decide +kernel
theorem d_Md_copy_48 : decode prog_12_method_21_code 48 = .ok (.return_, 1) := by decide +kernel
theorem d_Md_desk_0 : decode prog_12_method_23_code 0 = .ok (.aload_n 0, 1) := by decide +kernel
theorem d_Md_desk_1 : decode prog_12_method_23_code 1 = .ok (.bipush (95), 2) := by decide +kernel
theorem d_Md_desk_3 : decode prog_12_method_23_code 3 = .ok (.bipush (30), 2) := by decide +kernel
theorem d_Md_desk_5 : decode prog_12_method_23_code 5 = .ok (.invokevirtual 164, 3) := by decide +kernel
theorem d_Md_desk_8 : decode prog_12_method_23_code 8 = .ok (.istore_n 1, 1) := by decide +kernel
theorem d_Md_desk_9 : decode prog_12_method_23_code 9 = .ok (.aload_n 0, 1) := by decide +kernel
theorem d_Md_desk_10 : decode prog_12_method_23_code 10 = .ok (.iload_n 1, 1) := by decide +kernel
theorem d_Md_desk_11 : decode prog_12_method_23_code 11 = .ok (.ifCond .ge (7), 3) := by decide +kernel
theorem d_Md_desk_14 : decode prog_12_method_23_code 14 = .ok (.iconst 1, 1) := by decide +kernel
theorem d_Md_desk_15 : decode prog_12_method_23_code 15 = .ok (.goto (17), 3) := by decide +kernel
theorem d_Md_desk_18 : decode prog_12_method_23_code 18 = .ok (.aload_n 0, 1) := by decide +kernel
theorem d_Md_desk_19 : decode prog_12_method_23_code 19 = .ok (.getfield 172, 3) := by decide +kernel
theorem d_Md_desk_22 : decode prog_12_method_23_code 22 = .ok (.bipush (10), 2) := by decide +kernel
theorem d_Md_desk_24 : decode prog_12_method_23_code 24 = .ok (.if_icmp .ne (7), 3) := by decide +kernel
theorem d_Md_desk_27 : decode prog_12_method_23_code 27 = .ok (.iconst 2, 1) := by decide +kernel
theorem d_Md_desk_28 : decode prog_12_method_23_code 28 = .ok (.goto (4), 3) := by decide +kernel
theorem d_Md_desk_31 : decode prog_12_method_23_code 31 = .ok (.iconst 0, 1) := by decide +kernel
theorem d_Md_desk_32 : decode prog_12_method_23_code 32 = .ok (.putfield 84, 3) := by decide +kernel
theorem d_Md_desk_35 : decode prog_12_method_23_code 35 = .ok (.aload_n 0, 1) := by decide +kernel
theorem d_Md_desk_36 : decode prog_12_method_23_code 36 = .ok (.getfield 84, 3) := by decide +kernel
theorem d_Md_desk_39 : decode prog_12_method_23_code 39 = .ok (.ifCond .le (5), 3) := by decide +kernel
theorem d_Md_desk_42 : decode prog_12_method_23_code 42 = .ok (.iconst 0, 1) := by decide +kernel
theorem d_Md_desk_43 : decode prog_12_method_23_code 43 = .ok (.ireturn, 1) := by decide +kernel
theorem d_Md_desk_44 : decode prog_12_method_23_code 44 = .ok (.aload_n 0, 1) := by decide +kernel
theorem d_Md_desk_45 : decode prog_12_method_23_code 45 = .ok (.bipush (95), 2) := by decide +kernel
theorem d_Md_desk_47 : decode prog_12_method_23_code 47 = .ok (.bipush (85), 2) := by decide +kernel
theorem d_Md_desk_49 : decode prog_12_method_23_code 49 = .ok (.aload_n 0, 1) := by decide +kernel
theorem d_Md_desk_50 : decode prog_12_method_23_code 50 = .ok (.getfield 172, 3) := by decide +kernel
theorem d_Md_desk_53 : decode prog_12_method_23_code 53 = .ok (.iadd, 1) := by decide +kernel
theorem d_Md_desk_54 : decode prog_12_method_23_code 54 = .ok (.invokevirtual 168, 3) := by decide +kernel
theorem d_Md_desk_57 : decode prog_12_method_23_code 57 = .ok (.aload_n 0, 1) := by decide +kernel
theorem d_Md_desk_58 : decode prog_12_method_23_code 58 = .ok (.dup, 1) := by decide +kernel
theorem d_Md_desk_59 : decode prog_12_method_23_code 59 = .ok (.getfield 172, 3) := by decide +kernel
theorem d_Md_desk_62 : decode prog_12_method_23_code 62 = .ok (.iconst 1, 1) := by decide +kernel
theorem d_Md_desk_63 : decode prog_12_method_23_code 63 = .ok (.iadd, 1) := by decide +kernel
theorem d_Md_desk_64 : decode prog_12_method_23_code 64 = .ok (.putfield 172, 3) := by decide +kernel
theorem d_Md_desk_67 : decode prog_12_method_23_code 67 = .ok (.aload_n 0, 1) := by decide +kernel
theorem d_Md_desk_68 : decode prog_12_method_23_code 68 = .ok (.getfield 13, 3) := by decide +kernel
theorem d_Md_desk_71 : decode prog_12_method_23_code 71 = .ok (.bipush (95), 2) := by decide +kernel
theorem d_Md_desk_73 : decode prog_12_method_23_code 73 = .ok (.iconst 0, 1) := by decide +kernel
theorem d_Md_desk_74 : decode prog_12_method_23_code 74 = .ok (.iastore, 1) := by decide +kernel
theorem d_Md_desk_75 : decode prog_12_method_23_code 75 = .ok (.iload_n 1, 1) := by decide +kernel
theorem d_Md_desk_76 : decode prog_12_method_23_code 76 = .ok (.ireturn, 1) := by decide +kernel
theorem d_Md_clear_0 : decode prog_12_method_24_code 0 = .ok (.aload_n 0, 1) := by decide +kernel
theorem d_Md_clear_1 : decode prog_12_method_24_code 1 = .ok (.iconst 0, 1) := by decide +kernel
theorem d_Md_clear_2 : decode prog_12_method_24_code 2 = .ok (.putfield 84, 3) := by decide +kernel
theorem d_Md_clear_5 : decode prog_12_method_24_code 5 = .ok (.aload_n 0, 1) := by decide +kernel
theorem d_Md_clear_6 : decode prog_12_method_24_code 6 = .ok (.iconst 0, 1) := by decide +kernel
theorem d_Md_clear_7 : decode prog_12_method_24_code 7 = .ok (.putfield 172, 3) := by decide +kernel
theorem d_Md_clear_10 : decode prog_12_method_24_code 10 = .ok (.return_, 1) := by decide +kernel
theorem d_Md_issue_0 : decode prog_12_method_30_code 0 = .ok (.aload_n 0, 1) := by decide +kernel
theorem d_Md_issue_1 : decode prog_12_method_30_code 1 = .ok (.iload_n 1, 1) := by decide +kernel
theorem d_Md_issue_2 : decode prog_12_method_30_code 2 = .ok (.iconst 1, 1) := by decide +kernel
theorem d_Md_issue_3 : decode prog_12_method_30_code 3 = .ok (.if_icmp .lt (8), 3) := by decide +kernel
theorem d_Md_issue_6 : decode prog_12_method_30_code 6 = .ok (.iload_n 1, 1) := by decide +kernel
theorem d_Md_issue_7 : decode prog_12_method_30_code 7 = .ok (.iconst 3, 1) := by decide +kernel
theorem d_Md_issue_8 : decode prog_12_method_30_code 8 = .ok (.if_icmp .le (7), 3) := by decide +kernel
theorem d_Md_issue_11 : decode prog_12_method_30_code 11 = .ok (.iconst 1, 1) := by decide +kernel
theorem d_Md_issue_12 : decode prog_12_method_30_code 12 = .ok (.goto (17), 3) := by decide +kernel
theorem d_Md_issue_15 : decode prog_12_method_30_code 15 = .ok (.aload_n 0, 1) := by decide +kernel
theorem d_Md_issue_16 : decode prog_12_method_30_code 16 = .ok (.getfield 178, 3) := by decide +kernel
theorem d_Md_issue_19 : decode prog_12_method_30_code 19 = .ok (.bipush (16), 2) := by decide +kernel
theorem d_Md_issue_21 : decode prog_12_method_30_code 21 = .ok (.if_icmp .ne (7), 3) := by decide +kernel
theorem d_Md_issue_24 : decode prog_12_method_30_code 24 = .ok (.iconst 2, 1) := by decide +kernel
theorem d_Md_issue_25 : decode prog_12_method_30_code 25 = .ok (.goto (4), 3) := by decide +kernel
theorem d_Md_issue_28 : decode prog_12_method_30_code 28 = .ok (.iconst 0, 1) := by decide +kernel
theorem d_Md_issue_29 : decode prog_12_method_30_code 29 = .ok (.putfield 84, 3) := by decide +kernel
theorem d_Md_issue_32 : decode prog_12_method_30_code 32 = .ok (.aload_n 0, 1) := by decide +kernel
theorem d_Md_issue_33 : decode prog_12_method_30_code 33 = .ok (.getfield 84, 3) := by decide +kernel
theorem d_Md_issue_36 : decode prog_12_method_30_code 36 = .ok (.ifCond .le (5), 3) := by decide +kernel
theorem d_Md_issue_39 : decode prog_12_method_30_code 39 = .ok (.iconst 0, 1) := by decide +kernel
theorem d_Md_issue_40 : decode prog_12_method_30_code 40 = .ok (.ireturn, 1) := by decide +kernel
theorem d_Md_issue_41 : decode prog_12_method_30_code 41 = .ok (.aload_n 0, 1) := by decide +kernel
theorem d_Md_issue_42 : decode prog_12_method_30_code 42 = .ok (.dup, 1) := by decide +kernel
theorem d_Md_issue_43 : decode prog_12_method_30_code 43 = .ok (.getfield 19, 3) := by decide +kernel
theorem d_Md_issue_46 : decode prog_12_method_30_code 46 = .ok (.iconst 1, 1) := by decide +kernel
theorem d_Md_issue_47 : decode prog_12_method_30_code 47 = .ok (.iadd, 1) := by decide +kernel
theorem d_Md_issue_48 : decode prog_12_method_30_code 48 = .ok (.putfield 19, 3) := by decide +kernel
theorem d_Md_issue_51 : decode prog_12_method_30_code 51 = .ok (.aload_n 0, 1) := by decide +kernel
theorem d_Md_issue_52 : decode prog_12_method_30_code 52 = .ok (.aload_n 0, 1) := by decide +kernel
theorem d_Md_issue_53 : decode prog_12_method_30_code 53 = .ok (.getfield 178, 3) := by decide +kernel
theorem d_Md_issue_56 : decode prog_12_method_30_code 56 = .ok (.iconst 0, 1) := by decide +kernel
theorem d_Md_issue_57 : decode prog_12_method_30_code 57 = .ok (.aload_n 0, 1) := by decide +kernel
theorem d_Md_issue_58 : decode prog_12_method_30_code 58 = .ok (.invokevirtual 181, 3) := by decide +kernel
theorem d_Md_issue_61 : decode prog_12_method_30_code 61 = .ok (.aload_n 0, 1) := by decide +kernel
theorem d_Md_issue_62 : decode prog_12_method_30_code 62 = .ok (.getfield 19, 3) := by decide +kernel
theorem d_Md_issue_65 : decode prog_12_method_30_code 65 = .ok (.iload_n 1, 1) := by decide +kernel
theorem d_Md_issue_66 : decode prog_12_method_30_code 66 = .ok (.invokevirtual 184, 3) := by decide +kernel
theorem d_Md_issue_69 : decode prog_12_method_30_code 69 = .ok (.aload_n 0, 1) := by decide +kernel
theorem d_Md_issue_70 : decode prog_12_method_30_code 70 = .ok (.getfield 29, 3) := by decide +kernel
theorem d_Md_issue_73 : decode prog_12_method_30_code 73 = .ok (.aload_n 0, 1) := by decide +kernel
theorem d_Md_issue_74 : decode prog_12_method_30_code 74 = .ok (.getfield 178, 3) := by decide +kernel
theorem d_Md_issue_77 : decode prog_12_method_30_code 77 = .ok (.iconst 1, 1) := by decide +kernel
theorem d_Md_issue_78 : decode prog_12_method_30_code 78 = .ok (.iastore, 1) := by decide +kernel
theorem d_Md_issue_79 : decode prog_12_method_30_code 79 = .ok (.aload_n 0, 1) := by decide +kernel
theorem d_Md_issue_80 : decode prog_12_method_30_code 80 = .ok (.getfield 35, 3) := by decide +kernel
theorem d_Md_issue_83 : decode prog_12_method_30_code 83 = .ok (.aload_n 0, 1) := by decide +kernel
theorem d_Md_issue_84 : decode prog_12_method_30_code 84 = .ok (.getfield 178, 3) := by decide +kernel
theorem d_Md_issue_87 : decode prog_12_method_30_code 87 = .ok (.iconst 0, 1) := by decide +kernel
theorem d_Md_issue_88 : decode prog_12_method_30_code 88 = .ok (.bastore, 1) := by decide +kernel
theorem d_Md_issue_89 : decode prog_12_method_30_code 89 = .ok (.aload_n 0, 1) := by decide +kernel
theorem d_Md_issue_90 : decode prog_12_method_30_code 90 = .ok (.getfield 39, 3) := by decide +kernel
theorem d_Md_issue_93 : decode prog_12_method_30_code 93 = .ok (.aload_n 0, 1) := by decide +kernel
theorem d_Md_issue_94 : decode prog_12_method_30_code 94 = .ok (.getfield 178, 3) := by decide +kernel
theorem d_Md_issue_97 : decode prog_12_method_30_code 97 = .ok (.aload_n 0, 1) := by decide +kernel
theorem d_Md_issue_98 : decode prog_12_method_30_code 98 = .ok (.getfield 19, 3) := by decide +kernel
theorem d_Md_issue_101 : decode prog_12_method_30_code 101 = .ok (.iastore, 1) := by decide +kernel
theorem d_Md_issue_102 : decode prog_12_method_30_code 102 = .ok (.aload_n 0, 1) := by decide +kernel
theorem d_Md_issue_103 : decode prog_12_method_30_code 103 = .ok (.dup, 1) := by decide +kernel
theorem d_Md_issue_104 : decode prog_12_method_30_code 104 = .ok (.getfield 178, 3) := by decide +kernel
theorem d_Md_issue_107 : decode prog_12_method_30_code 107 = .ok (.iconst 1, 1) := by decide +kernel
theorem d_Md_issue_108 : decode prog_12_method_30_code 108 = .ok (.iadd, 1) := by decide +kernel
theorem d_Md_issue_109 : decode prog_12_method_30_code 109 = .ok (.putfield 178, 3) := by decide +kernel
theorem d_Md_issue_112 : decode prog_12_method_30_code 112 = .ok (.aload_n 0, 1) := by decide +kernel
theorem d_Md_issue_113 : decode prog_12_method_30_code 113 = .ok (.getfield 178, 3) := by decide +kernel
theorem d_Md_issue_116 : decode prog_12_method_30_code 116 = .ok (.iconst 1, 1) := by decide +kernel
theorem d_Md_issue_117 : decode prog_12_method_30_code 117 = .ok (.isub, 1) := by decide +kernel
theorem d_Md_issue_118 : decode prog_12_method_30_code 118 = .ok (.ireturn, 1) := by decide +kernel
theorem d_Md_close_0 : decode prog_12_method_25_code 0 = .ok (.aload_n 0, 1) := by decide +kernel
theorem d_Md_close_1 : decode prog_12_method_25_code 1 = .ok (.dup, 1) := by decide +kernel
theorem d_Md_close_2 : decode prog_12_method_25_code 2 = .ok (.getfield 175, 3) := by decide +kernel
theorem d_Md_close_5 : decode prog_12_method_25_code 5 = .ok (.iconst 1, 1) := by decide +kernel
theorem d_Md_close_6 : decode prog_12_method_25_code 6 = .ok (.iadd, 1) := by decide +kernel
theorem d_Md_close_7 : decode prog_12_method_25_code 7 = .ok (.putfield 175, 3) := by decide +kernel
theorem d_Md_close_10 : decode prog_12_method_25_code 10 = .ok (.iconst 0, 1) := by decide +kernel
theorem d_Md_close_11 : decode prog_12_method_25_code 11 = .ok (.istore_n 1, 1) := by decide +kernel
theorem d_Md_close_12 : decode prog_12_method_25_code 12 = .ok (.iload_n 1, 1) := by decide +kernel
theorem d_Md_close_13 : decode prog_12_method_25_code 13 = .ok (.aload_n 0, 1) := by decide +kernel
theorem d_Md_close_14 : decode prog_12_method_25_code 14 = .ok (.getfield 16, 3) := by decide +kernel
theorem d_Md_close_17 : decode prog_12_method_25_code 17 = .ok (.iconst 0, 1) := by decide +kernel
theorem d_Md_close_18 : decode prog_12_method_25_code 18 = .ok (.iaload, 1) := by decide +kernel
theorem d_Md_close_19 : decode prog_12_method_25_code 19 = .ok (.if_icmp .ge (22), 3) := by decide +kernel
theorem d_Md_close_22 : decode prog_12_method_25_code 22 = .ok (.aload_n 0, 1) := by decide +kernel
theorem d_Md_close_23 : decode prog_12_method_25_code 23 = .ok (.iload_n 1, 1) := by decide +kernel
theorem d_Md_close_24 : decode prog_12_method_25_code 24 = .ok (.iconst 5, 1) := by decide +kernel
theorem d_Md_close_25 : decode prog_12_method_25_code 25 = .ok (.aload_n 0, 1) := by decide +kernel
theorem d_Md_close_26 : decode prog_12_method_25_code 26 = .ok (.getfield 175, 3) := by decide +kernel
theorem d_Md_close_29 : decode prog_12_method_25_code 29 = .ok (.imul, 1) := by decide +kernel
theorem d_Md_close_30 : decode prog_12_method_25_code 30 = .ok (.iload_n 1, 1) := by decide +kernel
theorem d_Md_close_31 : decode prog_12_method_25_code 31 = .ok (.iadd, 1) := by decide +kernel
theorem d_Md_close_32 : decode prog_12_method_25_code 32 = .ok (.invokevirtual 168, 3) := by decide +kernel
theorem d_Md_close_35 : decode prog_12_method_25_code 35 = .ok (.iinc 1 (1), 3) := by decide +kernel
theorem d_Md_close_38 : decode prog_12_method_25_code 38 = .ok (.goto (-26), 3) := by decide +kernel
theorem d_Md_close_41 : decode prog_12_method_25_code 41 = .ok (.aload_n 0, 1) := by decide +kernel
theorem d_Md_close_42 : decode prog_12_method_25_code 42 = .ok (.getfield 16, 3) := by decide +kernel
theorem d_Md_close_45 : decode prog_12_method_25_code 45 = .ok (.aload_n 0, 1) := by decide +kernel
theorem d_Md_close_46 : decode prog_12_method_25_code 46 = .ok (.getfield 175, 3) := by decide +kernel
theorem d_Md_close_49 : decode prog_12_method_25_code 49 = .ok (.aload_n 0, 1) := by decide +kernel
theorem d_Md_close_50 : decode prog_12_method_25_code 50 = .ok (.getfield 16, 3) := by decide +kernel
theorem d_Md_close_53 : decode prog_12_method_25_code 53 = .ok (.iconst 0, 1) := by decide +kernel
theorem d_Md_close_54 : decode prog_12_method_25_code 54 = .ok (.iaload, 1) := by decide +kernel
theorem d_Md_close_55 : decode prog_12_method_25_code 55 = .ok (.iastore, 1) := by decide +kernel
theorem d_Md_close_56 : decode prog_12_method_25_code 56 = .ok (.aload_n 0, 1) := by decide +kernel
theorem d_Md_close_57 : decode prog_12_method_25_code 57 = .ok (.getfield 16, 3) := by decide +kernel
theorem d_Md_close_60 : decode prog_12_method_25_code 60 = .ok (.iconst 0, 1) := by decide +kernel
theorem d_Md_close_61 : decode prog_12_method_25_code 61 = .ok (.iconst 0, 1) := by decide +kernel
theorem d_Md_close_62 : decode prog_12_method_25_code 62 = .ok (.iastore, 1) := by decide +kernel
theorem d_Md_close_63 : decode prog_12_method_25_code 63 = .ok (.aload_n 0, 1) := by decide +kernel
theorem d_Md_close_64 : decode prog_12_method_25_code 64 = .ok (.getfield 175, 3) := by decide +kernel
theorem d_Md_close_67 : decode prog_12_method_25_code 67 = .ok (.ireturn, 1) := by decide +kernel
theorem d_Md_setLink_0 : decode prog_12_method_26_code 0 = .ok (.bipush (20), 2) := by decide +kernel
theorem d_Md_setLink_2 : decode prog_12_method_26_code 2 = .ok (.iload_n 1, 1) := by decide +kernel
theorem d_Md_setLink_3 : decode prog_12_method_26_code 3 = .ok (.imul, 1) := by decide +kernel
theorem d_Md_setLink_4 : decode prog_12_method_26_code 4 = .ok (.iconst 5, 1) := by decide +kernel
theorem d_Md_setLink_5 : decode prog_12_method_26_code 5 = .ok (.iload_n 2, 1) := by decide +kernel
theorem d_Md_setLink_6 : decode prog_12_method_26_code 6 = .ok (.imul, 1) := by decide +kernel
theorem d_Md_setLink_7 : decode prog_12_method_26_code 7 = .ok (.iadd, 1) := by decide +kernel
theorem d_Md_setLink_8 : decode prog_12_method_26_code 8 = .ok (.istore 6, 2) := by decide +kernel
theorem d_Md_setLink_10 : decode prog_12_method_26_code 10 = .ok (.aload_n 0, 1) := by decide +kernel
theorem d_Md_setLink_11 : decode prog_12_method_26_code 11 = .ok (.getfield 32, 3) := by decide +kernel
theorem d_Md_setLink_14 : decode prog_12_method_26_code 14 = .ok (.iload 6, 2) := by decide +kernel
theorem d_Md_setLink_16 : decode prog_12_method_26_code 16 = .ok (.iload_n 3, 1) := by decide +kernel
theorem d_Md_setLink_17 : decode prog_12_method_26_code 17 = .ok (.iastore, 1) := by decide +kernel
theorem d_Md_setLink_18 : decode prog_12_method_26_code 18 = .ok (.aload_n 0, 1) := by decide +kernel
theorem d_Md_setLink_19 : decode prog_12_method_26_code 19 = .ok (.getfield 32, 3) := by decide +kernel
theorem d_Md_setLink_22 : decode prog_12_method_26_code 22 = .ok (.iload 6, 2) := by decide +kernel
theorem d_Md_setLink_24 : decode prog_12_method_26_code 24 = .ok (.iconst 1, 1) := by decide +kernel
theorem d_Md_setLink_25 : decode prog_12_method_26_code 25 = .ok (.iadd, 1) := by decide +kernel
theorem d_Md_setLink_26 : decode prog_12_method_26_code 26 = .ok (.iload 4, 2) := by decide +kernel
theorem d_Md_setLink_28 : decode prog_12_method_26_code 28 = .ok (.iastore, 1) := by decide +kernel
theorem d_Md_setLink_29 : decode prog_12_method_26_code 29 = .ok (.aload_n 0, 1) := by decide +kernel
theorem d_Md_setLink_30 : decode prog_12_method_26_code 30 = .ok (.getfield 32, 3) := by decide +kernel
theorem d_Md_setLink_33 : decode prog_12_method_26_code 33 = .ok (.iload 6, 2) := by decide +kernel
theorem d_Md_setLink_35 : decode prog_12_method_26_code 35 = .ok (.iconst 2, 1) := by decide +kernel
theorem d_Md_setLink_36 : decode prog_12_method_26_code 36 = .ok (.iadd, 1) := by decide +kernel
theorem d_Md_setLink_37 : decode prog_12_method_26_code 37 = .ok (.iload 5, 2) := by decide +kernel
theorem d_Md_setLink_39 : decode prog_12_method_26_code 39 = .ok (.iastore, 1) := by decide +kernel
theorem d_Md_setLink_40 : decode prog_12_method_26_code 40 = .ok (.aload_n 0, 1) := by decide +kernel
theorem d_Md_setLink_41 : decode prog_12_method_26_code 41 = .ok (.getfield 32, 3) := by decide +kernel
theorem d_Md_setLink_44 : decode prog_12_method_26_code 44 = .ok (.iload 6, 2) := by decide +kernel
theorem d_Md_setLink_46 : decode prog_12_method_26_code 46 = .ok (.iconst 3, 1) := by decide +kernel
theorem d_Md_setLink_47 : decode prog_12_method_26_code 47 = .ok (.iadd, 1) := by decide +kernel
theorem d_Md_setLink_48 : decode prog_12_method_26_code 48 = .ok (.iload_n 3, 1) := by decide +kernel
theorem d_Md_setLink_49 : decode prog_12_method_26_code 49 = .ok (.iastore, 1) := by decide +kernel
theorem d_Md_setLink_50 : decode prog_12_method_26_code 50 = .ok (.aload_n 0, 1) := by decide +kernel
theorem d_Md_setLink_51 : decode prog_12_method_26_code 51 = .ok (.getfield 32, 3) := by decide +kernel
theorem d_Md_setLink_54 : decode prog_12_method_26_code 54 = .ok (.iload 6, 2) := by decide +kernel
theorem d_Md_setLink_56 : decode prog_12_method_26_code 56 = .ok (.iconst 4, 1) := by decide +kernel
theorem d_Md_setLink_57 : decode prog_12_method_26_code 57 = .ok (.iadd, 1) := by decide +kernel
theorem d_Md_setLink_58 : decode prog_12_method_26_code 58 = .ok (.iload 4, 2) := by decide +kernel
theorem d_Md_setLink_60 : decode prog_12_method_26_code 60 = .ok (.iastore, 1) := by decide +kernel
theorem d_Md_setLink_61 : decode prog_12_method_26_code 61 = .ok (.return_, 1) := by decide +kernel
