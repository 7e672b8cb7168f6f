theorem d_Md_init_0 : decode prog_12_method_1_code 0 = .ok (.aload_n 0, 1) := by decide +kernel
theorem d_Md_init_1 : decode prog_12_method_1_code 1 = .ok (.invokespecial 1, 3) := by decide +kernel
theorem d_Md_init_4 : decode prog_12_method_1_code 4 = .ok (.aload_n 0, 1) := by decide +kernel
theorem d_Md_init_5 : decode prog_12_method_1_code 5 = .ok (.sipush (3840), 3) := by decide +kernel
theorem d_Md_init_8 : decode prog_12_method_1_code 8 = .ok (.newarray .int, 2) := by decide +kernel
theorem d_Md_init_10 : decode prog_12_method_1_code 10 = .ok (.putfield 7, 3) := by decide +kernel
theorem d_Md_init_13 : decode prog_12_method_1_code 13 = .ok (.aload_n 0, 1) := by decide +kernel
theorem d_Md_init_14 : decode prog_12_method_1_code 14 = .ok (.bipush (96), 2) := by decide +kernel
theorem d_Md_init_16 : decode prog_12_method_1_code 16 = .ok (.newarray .int, 2) := by decide +kernel
theorem d_Md_init_18 : decode prog_12_method_1_code 18 = .ok (.putfield 13, 3) := by decide +kernel
theorem d_Md_init_21 : decode prog_12_method_1_code 21 = .ok (.aload_n 0, 1) := by decide +kernel
theorem d_Md_init_22 : decode prog_12_method_1_code 22 = .ok (.bipush (17), 2) := by decide +kernel
theorem d_Md_init_24 : decode prog_12_method_1_code 24 = .ok (.newarray .int, 2) := by decide +kernel
theorem d_Md_init_26 : decode prog_12_method_1_code 26 = .ok (.putfield 16, 3) := by decide +kernel
theorem d_Md_init_29 : decode prog_12_method_1_code 29 = .ok (.aload_n 0, 1) := by decide +kernel
theorem d_Md_init_30 : decode prog_12_method_1_code 30 = .ok (.iconst 3, 1) := by decide +kernel
theorem d_Md_init_31 : decode prog_12_method_1_code 31 = .ok (.putfield 19, 3) := by decide +kernel
theorem d_Md_init_34 : decode prog_12_method_1_code 34 = .ok (.aload_n 0, 1) := by decide +kernel
theorem d_Md_init_35 : decode prog_12_method_1_code 35 = .ok (.bipush (30), 2) := by decide +kernel
theorem d_Md_init_37 : decode prog_12_method_1_code 37 = .ok (.putfield 23, 3) := by decide +kernel
theorem d_Md_init_40 : decode prog_12_method_1_code 40 = .ok (.aload_n 0, 1) := by decide +kernel
theorem d_Md_init_41 : decode prog_12_method_1_code 41 = .ok (.bipush (10), 2) := by decide +kernel
theorem d_Md_init_43 : decode prog_12_method_1_code 43 = .ok (.putfield 26, 3) := by decide +kernel
theorem d_Md_init_46 : decode prog_12_method_1_code 46 = .ok (.aload_n 0, 1) := by decide +kernel
theorem d_Md_init_47 : decode prog_12_method_1_code 47 = .ok (.bipush (17), 2) := by decide +kernel
theorem d_Md_init_49 : decode prog_12_method_1_code 49 = .ok (.newarray .int, 2) := by decide +kernel
theorem d_Md_init_51 : decode prog_12_method_1_code 51 = .ok (.putfield 29, 3) := by decide +kernel
theorem d_Md_init_54 : decode prog_12_method_1_code 54 = .ok (.aload_n 0, 1) := by decide +kernel
theorem d_Md_init_55 : decode prog_12_method_1_code 55 = .ok (.sipush (340), 3) := by decide +kernel
theorem d_Md_init_58 : decode prog_12_method_1_code 58 = .ok (.newarray .int, 2) := by decide +kernel
theorem d_Md_init_60 : decode prog_12_method_1_code 60 = .ok (.putfield 32, 3) := by decide +kernel
theorem d_Md_init_63 : decode prog_12_method_1_code 63 = .ok (.aload_n 0, 1) := by decide +kernel
theorem d_Md_init_64 : decode prog_12_method_1_code 64 = .ok (.bipush (17), 2) := by decide +kernel
theorem d_Md_init_66 : decode prog_12_method_1_code 66 = .ok (.newarray .boolean, 2) := by decide +kernel
theorem d_Md_init_68 : decode prog_12_method_1_code 68 = .ok (.putfield 35, 3) := by decide +kernel
theorem d_Md_init_71 : decode prog_12_method_1_code 71 = .ok (.aload_n 0, 1) := by decide +kernel
theorem d_Md_init_72 : decode prog_12_method_1_code 72 = .ok (.bipush (17), 2) := by decide +kernel
theorem d_Md_init_74 : decode prog_12_method_1_code 74 = .ok (.newarray .int, 2) := by decide +kernel
theorem d_Md_init_76 : decode prog_12_method_1_code 76 = .ok (.putfield 39, 3) := by decide +kernel
theorem d_Md_init_79 : decode prog_12_method_1_code 79 = .ok (.aload_n 0, 1) := by decide +kernel
theorem d_Md_init_80 : decode prog_12_method_1_code 80 = .ok (.bipush (17), 2) := by decide +kernel
theorem d_Md_init_82 : decode prog_12_method_1_code 82 = .ok (.newarray .int, 2) := by decide +kernel
theorem d_Md_init_84 : decode prog_12_method_1_code 84 = .ok (.putfield 42, 3) := by decide +kernel
theorem d_Md_init_87 : decode prog_12_method_1_code 87 = .ok (.aload_n 0, 1) := by decide +kernel
theorem d_Md_init_88 : decode prog_12_method_1_code 88 = .ok (.bipush (31), 2) := by decide +kernel
theorem d_Md_init_90 : decode prog_12_method_1_code 90 = .ok (.newarray .int, 2) := by decide +kernel
theorem d_Md_init_92 : decode prog_12_method_1_code 92 = .ok (.putfield 45, 3) := by decide +kernel
theorem d_Md_init_95 : decode prog_12_method_1_code 95 = .ok (.aload_n 0, 1) := by decide +kernel
theorem d_Md_init_96 : decode prog_12_method_1_code 96 = .ok (.bipush (31), 2) := by decide +kernel
theorem d_Md_init_98 : decode prog_12_method_1_code 98 = .ok (.newarray .int, 2) := by decide +kernel
theorem d_Md_init_100 : decode prog_12_method_1_code 100 = .ok (.putfield 48, 3) := by decide +kernel
theorem d_Md_init_103 : decode prog_12_method_1_code 103 = .ok (.aload_n 0, 1) := by decide +kernel
theorem d_Md_init_104 : decode prog_12_method_1_code 104 = .ok (.bipush (31), 2) := by decide +kernel
theorem d_Md_init_106 : decode prog_12_method_1_code 106 = .ok (.newarray .boolean, 2) := by decide +kernel
theorem d_Md_init_108 : decode prog_12_method_1_code 108 = .ok (.putfield 51, 3) := by decide +kernel
theorem d_Md_init_111 : decode prog_12_method_1_code 111 = .ok (.aload_n 0, 1) := by decide +kernel
theorem d_Md_init_112 : decode prog_12_method_1_code 112 = .ok (.bipush (31), 2) := by decide +kernel
theorem d_Md_init_114 : decode prog_12_method_1_code 114 = .ok (.newarray .int, 2) := by decide +kernel
theorem d_Md_init_116 : decode prog_12_method_1_code 116 = .ok (.putfield 54, 3) := by decide +kernel
theorem d_Md_init_119 : decode prog_12_method_1_code 119 = .ok (.aload_n 0, 1) := by decide +kernel
theorem d_Md_init_120 : decode prog_12_method_1_code 120 = .ok (.sipush (496), 3) := by decide +kernel
theorem d_Md_init_123 : decode prog_12_method_1_code 123 = .ok (.newarray .int, 2) := by decide +kernel
theorem d_Md_init_125 : decode prog_12_method_1_code 125 = .ok (.putfield 57, 3) := by decide +kernel
theorem d_Md_init_128 : decode prog_12_method_1_code 128 = .ok (.aload_n 0, 1) := by decide +kernel
theorem d_Md_init_129 : decode prog_12_method_1_code 129 = .ok (.bipush (31), 2) := by decide +kernel
theorem d_Md_init_131 : decode prog_12_method_1_code 131 = .ok (.newarray .int, 2) := by decide +kernel
theorem d_Md_init_133 : decode prog_12_method_1_code 133 = .ok (.putfield 60, 3) := by decide +kernel
theorem d_Md_init_136 : decode prog_12_method_1_code 136 = .ok (.aload_n 0, 1) := by decide +kernel
theorem d_Md_init_137 : decode prog_12_method_1_code 137 = .ok (.sipush (1488), 3) := by decide +kernel
theorem d_Md_init_140 : decode prog_12_method_1_code 140 = .ok (.newarray .int, 2) := by decide +kernel
theorem d_Md_init_142 : decode prog_12_method_1_code 142 = .ok (.putfield 63, 3) := by decide +kernel
theorem d_Md_init_145 : decode prog_12_method_1_code 145 = .ok (.aload_n 0, 1) := by decide +kernel
theorem d_Md_init_146 : decode prog_12_method_1_code 146 = .ok (.bipush (48), 2) := by decide +kernel
theorem d_Md_init_148 : decode prog_12_method_1_code 148 = .ok (.newarray .int, 2) := by decide +kernel
theorem d_Md_init_150 : decode prog_12_method_1_code 150 = .ok (.putfield 66, 3) := by decide +kernel
theorem d_Md_init_153 : decode prog_12_method_1_code 153 = .ok (.aload_n 0, 1) := by decide +kernel
theorem d_Md_init_154 : decode prog_12_method_1_code 154 = .ok (.sipush (160), 3) := by decide +kernel
theorem d_Md_init_157 : decode prog_12_method_1_code 157 = .ok (.newarray .int, 2) := by decide +kernel
theorem d_Md_init_159 : decode prog_12_method_1_code 159 = .ok (.putfield 69, 3) := by decide +kernel
theorem d_Md_init_162 : decode prog_12_method_1_code 162 = .ok (.aload_n 0, 1) := by decide +kernel
theorem d_Md_init_163 : decode prog_12_method_1_code 163 = .ok (.iconst 4, 1) := by decide +kernel
theorem d_Md_init_164 : decode prog_12_method_1_code 164 = .ok (.newarray .int, 2) := by decide +kernel
theorem d_Md_init_166 : decode prog_12_method_1_code 166 = .ok (.putfield 72, 3) := by decide +kernel
theorem d_Md_init_169 : decode prog_12_method_1_code 169 = .ok (.aload_n 0, 1) := by decide +kernel
theorem d_Md_init_170 : decode prog_12_method_1_code 170 = .ok (.iconst 5, 1) := by decide +kernel
theorem d_Md_init_171 : decode prog_12_method_1_code 171 = .ok (.newarray .int, 2) := by decide +kernel
theorem d_Md_init_173 : decode prog_12_method_1_code 173 = .ok (.putfield 75, 3) := by decide +kernel
theorem d_Md_init_176 : decode prog_12_method_1_code 176 = .ok (.aload_n 0, 1) := by decide +kernel
theorem d_Md_init_177 : decode prog_12_method_1_code 177 = .ok (.bipush (8), 2) := by decide +kernel
theorem d_Md_init_179 : decode prog_12_method_1_code 179 = .ok (.newarray .int, 2) := by decide +kernel
theorem d_Md_init_181 : decode prog_12_method_1_code 181 = .ok (.putfield 78, 3) := by decide +kernel
theorem d_Md_init_184 : decode prog_12_method_1_code 184 = .ok (.aload_n 0, 1) := by decide +kernel
theorem d_Md_init_185 : decode prog_12_method_1_code 185 = .ok (.bipush (48), 2) := by decide +kernel
theorem d_Md_init_187 : decode prog_12_method_1_code 187 = .ok (.newarray .int, 2) := by decide +kernel
theorem d_Md_init_189 : decode prog_12_method_1_code 189 = .ok (.putfield 81, 3) := by decide +kernel
theorem d_Md_init_192 : decode prog_12_method_1_code 192 = .ok (.return_, 1) := by decide +kernel
theorem d_Md_thrown_0 : decode prog_12_method_2_code 0 = .ok (.aload_n 0, 1) := by decide +kernel
theorem d_Md_thrown_1 : decode prog_12_method_2_code 1 = .ok (.getfield 84, 3) := by decide +kernel
theorem d_Md_thrown_4 : decode prog_12_method_2_code 4 = .ok (.ireturn, 1) := by decide +kernel
theorem d_Md_type_0 : decode prog_12_method_19_code 0 = .ok (.aload_n 0, 1) := by decide +kernel
theorem d_Md_type_1 : decode prog_12_method_19_code 1 = .ok (.iconst 0, 1) := by decide +kernel
theorem d_Md_type_2 : decode prog_12_method_19_code 2 = .ok (.putfield 84, 3) := by decide +kernel
theorem d_Md_type_5 : decode prog_12_method_19_code 5 = .ok (.iload_n 1, 1) := by decide +kernel
theorem d_Md_type_6 : decode prog_12_method_19_code 6 = .ok (.bipush (32), 2) := by decide +kernel
theorem d_Md_type_8 : decode prog_12_method_19_code 8 = .ok (.if_icmp .lt (21), 3) := by decide +kernel
theorem d_Md_type_11 : decode prog_12_method_19_code 11 = .ok (.iload_n 1, 1) := by decide +kernel
theorem d_Md_type_12 : decode prog_12_method_19_code 12 = .ok (.bipush (126), 2) := by decide +kernel
theorem d_Md_type_14 : decode prog_12_method_19_code 14 = .ok (.if_icmp .gt (15), 3) := by decide +kernel
theorem d_Md_type_17 : decode prog_12_method_19_code 17 = .ok (.aload_n 0, 1) := by decide +kernel
theorem d_Md_type_18 : decode prog_12_method_19_code 18 = .ok (.getfield 13, 3) := by decide +kernel
theorem d_Md_type_21 : decode prog_12_method_19_code 21 = .ok (.bipush (95), 2) := by decide +kernel
theorem d_Md_type_23 : decode prog_12_method_19_code 23 = .ok (.iaload, 1) := by decide +kernel
theorem d_Md_type_24 : decode prog_12_method_19_code 24 = .ok (.bipush (40), 2) := by decide +kernel
theorem d_Md_type_26 : decode prog_12_method_19_code 26 = .ok (.if_icmp .lt (5), 3) := by decide +kernel
theorem d_Md_type_29 : decode prog_12_method_19_code 29 = .ok (.iconst 0, 1) := by decide +kernel
theorem d_Md_type_30 : decode prog_12_method_19_code 30 = .ok (.ireturn, 1) := by decide +kernel
theorem d_Md_type_31 : decode prog_12_method_19_code 31 = .ok (.aload_n 0, 1) := by decide +kernel
theorem d_Md_type_32 : decode prog_12_method_19_code 32 = .ok (.getfield 7, 3) := by decide +kernel
theorem d_Md_type_35 : decode prog_12_method_19_code 35 = .ok (.sipush (3800), 3) := by decide +kernel
theorem d_Md_type_38 : decode prog_12_method_19_code 38 = .ok (.aload_n 0, 1) := by decide +kernel
theorem d_Md_type_39 : decode prog_12_method_19_code 39 = .ok (.getfield 13, 3) := by decide +kernel
theorem d_Md_type_42 : decode prog_12_method_19_code 42 = .ok (.bipush (95), 2) := by decide +kernel
theorem d_Md_type_44 : decode prog_12_method_19_code 44 = .ok (.iaload, 1) := by decide +kernel
theorem d_Md_type_45 : decode prog_12_method_19_code 45 = .ok (.iadd, 1) := by decide +kernel
theorem d_Md_type_46 : decode prog_12_method_19_code 46 = .ok (.iload_n 1, 1) := by decide +kernel
theorem d_Md_type_47 : decode prog_12_method_19_code 47 = .ok (.iastore, 1) := by decide +kernel
theorem d_Md_type_48 : decode prog_12_method_19_code 48 = .ok (.aload_n 0, 1) := by decide +kernel
theorem d_Md_type_49 : decode prog_12_method_19_code 49 = .ok (.getfield 13, 3) := by decide +kernel
theorem d_Md_type_52 : decode prog_12_method_19_code 52 = .ok (.bipush (95), 2) := by decide +kernel
theorem d_Md_type_54 : decode prog_12_method_19_code 54 = .ok (.dup2, 1) := by decide +kernel
theorem d_Md_type_55 : decode prog_12_method_19_code 55 = .ok (.iaload, 1) := by decide +kernel
theorem d_Md_type_56 : decode prog_12_method_19_code 56 = .ok (.iconst 1, 1) := by decide +kernel
theorem d_Md_type_57 : decode prog_12_method_19_code 57 = .ok (.iadd, 1) := by decide +kernel
theorem d_Md_type_58 : decode prog_12_method_19_code 58 = .ok (.iastore, 1) := by decide +kernel
theorem d_Md_type_59 : decode prog_12_method_19_code 59 = .ok (.iconst 1, 1) := by decide +kernel
theorem d_Md_type_60 : decode prog_12_method_19_code 60 = .ok (.ireturn, 1) := by decide +kernel
theorem d_Md_wipe_0 : decode prog_12_method_20_code 0 = .ok (.aload_n 0, 1) := by decide +kernel
theorem d_Md_wipe_1 : decode prog_12_method_20_code 1 = .ok (.iconst 0, 1) := by decide +kernel
theorem d_Md_wipe_2 : decode prog_12_method_20_code 2 = .ok (.putfield 84, 3) := by decide +kernel
theorem d_Md_wipe_5 : decode prog_12_method_20_code 5 = .ok (.aload_n 0, 1) := by decide +kernel
theorem d_Md_wipe_6 : decode prog_12_method_20_code 6 = .ok (.getfield 13, 3) := by decide +kernel
theorem d_Md_wipe_9 : decode prog_12_method_20_code 9 = .ok (.bipush (95), 2) := by decide +kernel
theorem d_Md_wipe_11 : decode prog_12_method_20_code 11 = .ok (.iconst 0, 1) := by decide +kernel
theorem d_Md_wipe_12 : decode prog_12_method_20_code 12 = .ok (.iastore, 1) := by decide +kernel
theorem d_Md_wipe_13 : decode prog_12_method_20_code 13 = .ok (.return_, 1) := by decide +kernel
theorem d_Md_clause_0 : decode prog_12_method_22_code 0 = .ok (.aload_n 0, 1) := by decide +kernel
theorem d_Md_clause_1 : decode prog_12_method_22_code 1 = .ok (.bipush (95), 2) := by decide +kernel
theorem d_Md_clause_3 : decode prog_12_method_22_code 3 = .ok (.bipush (30), 2) := by decide +kernel
theorem d_Md_clause_5 : decode prog_12_method_22_code 5 = .ok (.invokevirtual 164, 3) := by decide +kernel
theorem d_Md_clause_8 : decode prog_12_method_22_code 8 = .ok (.istore_n 1, 1) := by decide +kernel
theorem d_Md_clause_9 : decode prog_12_method_22_code 9 = .ok (.aload_n 0, 1) := by decide +kernel
theorem d_Md_clause_10 : decode prog_12_method_22_code 10 = .ok (.iload_n 1, 1) := by decide +kernel
theorem d_Md_clause_11 : decode prog_12_method_22_code 11 = .ok (.ifCond .ge (7), 3) := by decide +kernel
theorem d_Md_clause_14 : decode prog_12_method_22_code 14 = .ok (.iconst 1, 1) := by decide +kernel
theorem d_Md_clause_15 : decode prog_12_method_22_code 15 = .ok (.goto (27), 3) := by decide +kernel
theorem d_Md_clause_18 : decode prog_12_method_22_code 18 = .ok (.iload_n 1, 1) := by decide +kernel
theorem d_Md_clause_19 : decode prog_12_method_22_code 19 = .ok (.iconst 3, 1) := by decide +kernel
theorem d_Md_clause_20 : decode prog_12_method_22_code 20 = .ok (.if_icmp .le (7), 3) := by decide +kernel
theorem d_Md_clause_23 : decode prog_12_method_22_code 23 = .ok (.iconst 2, 1) := by decide +kernel
theorem d_Md_clause_24 : decode prog_12_method_22_code 24 = .ok (.goto (18), 3) := by decide +kernel
theorem d_Md_clause_27 : decode prog_12_method_22_code 27 = .ok (.aload_n 0, 1) := by decide +kernel
theorem d_Md_clause_28 : decode prog_12_method_22_code 28 = .ok (.getfield 16, 3) := by decide +kernel
theorem d_Md_clause_31 : decode prog_12_method_22_code 31 = .ok (.iconst 0, 1) := by decide +kernel
theorem d_Md_clause_32 : decode prog_12_method_22_code 32 = .ok (.iaload, 1) := by decide +kernel
theorem d_Md_clause_33 : decode prog_12_method_22_code 33 = .ok (.iconst 5, 1) := by decide +kernel
theorem d_Md_clause_34 : decode prog_12_method_22_code 34 = .ok (.if_icmp .ne (7), 3) := by decide +kernel
theorem d_Md_clause_37 : decode prog_12_method_22_code 37 = .ok (.iconst 3, 1) := by decide +kernel
theorem d_Md_clause_38 : decode prog_12_method_22_code 38 = .ok (.goto (4), 3) := by decide +kernel
theorem d_Md_clause_41 : decode prog_12_method_22_code 41 = .ok (.iconst 0, 1) := by decide +kernel
theorem d_Md_clause_42 : decode prog_12_method_22_code 42 = .ok (.putfield 84, 3) := by decide +kernel
theorem d_Md_clause_45 : decode prog_12_method_22_code 45 = .ok (.aload_n 0, 1) := by decide +kernel
theorem d_Md_clause_46 : decode prog_12_method_22_code 46 = .ok (.getfield 84, 3) := by decide +kernel
theorem d_Md_clause_49 : decode prog_12_method_22_code 49 = .ok (.ifCond .le (5), 3) := by decide +kernel
theorem d_Md_clause_52 : decode prog_12_method_22_code 52 = .ok (.iconst 0, 1) := by decide +kernel
theorem d_Md_clause_53 : decode prog_12_method_22_code 53 = .ok (.ireturn, 1) := by decide +kernel
theorem d_Md_clause_54 : decode prog_12_method_22_code 54 = .ok (.aload_n 0, 1) := by decide +kernel
theorem d_Md_clause_55 : decode prog_12_method_22_code 55 = .ok (.bipush (95), 2) := by decide +kernel
theorem d_Md_clause_57 : decode prog_12_method_22_code 57 = .ok (.aload_n 0, 1) := by decide +kernel
theorem d_Md_clause_58 : decode prog_12_method_22_code 58 = .ok (.getfield 16, 3) := by decide +kernel
theorem d_Md_clause_61 : decode prog_12_method_22_code 61 = .ok (.iconst 0, 1) := by decide +kernel
theorem d_Md_clause_62 : decode prog_12_method_22_code 62 = .ok (.iaload, 1) := by decide +kernel
theorem d_Md_clause_63 : decode prog_12_method_22_code 63 = .ok (.invokevirtual 168, 3) := by decide +kernel
theorem d_Md_clause_66 : decode prog_12_method_22_code 66 = .ok (.aload_n 0, 1) := by decide +kernel
theorem d_Md_clause_67 : decode prog_12_method_22_code 67 = .ok (.getfield 16, 3) := by decide +kernel
theorem d_Md_clause_70 : decode prog_12_method_22_code 70 = .ok (.iconst 0, 1) := by decide +kernel
theorem d_Md_clause_71 : decode prog_12_method_22_code 71 = .ok (.dup2, 1) := by decide +kernel
theorem d_Md_clause_72 : decode prog_12_method_22_code 72 = .ok (.iaload, 1) := by decide +kernel
theorem d_Md_clause_73 : decode prog_12_method_22_code 73 = .ok (.iconst 1, 1) := by decide +kernel
theorem d_Md_clause_74 : decode prog_12_method_22_code 74 = .ok (.iadd, 1) := by decide +kernel
theorem d_Md_clause_75 : decode prog_12_method_22_code 75 = .ok (.iastore, 1) := by decide +kernel
theorem d_Md_clause_76 : decode prog_12_method_22_code 76 = .ok (.aload_n 0, 1) := by decide +kernel
theorem d_Md_clause_77 : decode prog_12_method_22_code 77 = .ok (.getfield 13, 3) := by decide +kernel
theorem d_Md_clause_80 : decode prog_12_method_22_code 80 = .ok (.bipush (95), 2) := by decide +kernel
theorem d_Md_clause_82 : decode prog_12_method_22_code 82 = .ok (.iconst 0, 1) := by decide +kernel
theorem d_Md_clause_83 : decode prog_12_method_22_code 83 = .ok (.iastore, 1) := by decide +kernel
theorem d_Md_clause_84 : decode prog_12_method_22_code 84 = .ok (.iload_n 1, 1) := by decide +kernel
theorem d_Md_clause_85 : decode prog_12_method_22_code 85 = .ok (.ireturn, 1) := by decide +kernel
theorem d_Md_read_0 : decode prog_12_method_8_code 0 = .ok (.aload_n 0, 1) := by decide +kernel
theorem d_Md_read_1 : decode prog_12_method_8_code 1 = .ok (.bipush (40), 2) := by decide +kernel
theorem d_Md_read_3 : decode prog_12_method_8_code 3 = .ok (.iload_n 1, 1) := by decide +kernel
theorem d_Md_read_4 : decode prog_12_method_8_code 4 = .ok (.imul, 1) := by decide +kernel
theorem d_Md_read_5 : decode prog_12_method_8_code 5 = .ok (.putfield 93, 3) := by decide +kernel
theorem d_Md_read_8 : decode prog_12_method_8_code 8 = .ok (.aload_n 0, 1) := by decide +kernel
theorem d_Md_read_9 : decode prog_12_method_8_code 9 = .ok (.aload_n 0, 1) := by decide +kernel
theorem d_Md_read_10 : decode prog_12_method_8_code 10 = .ok (.getfield 13, 3) := by decide +kernel
theorem d_Md_read_13 : decode prog_12_method_8_code 13 = .ok (.iload_n 1, 1) := by decide +kernel
theorem d_Md_read_14 : decode prog_12_method_8_code 14 = .ok (.iaload, 1) := by decide +kernel
theorem d_Md_read_15 : decode prog_12_method_8_code 15 = .ok (.putfield 90, 3) := by decide +kernel
theorem d_Md_read_18 : decode prog_12_method_8_code 18 = .ok (.aload_n 0, 1) := by decide +kernel
theorem d_Md_read_19 : decode prog_12_method_8_code 19 = .ok (.iload_n 2, 1) := by decide +kernel
theorem d_Md_read_20 : decode prog_12_method_8_code 20 = .ok (.putfield 112, 3) := by decide +kernel
theorem d_Md_read_23 : decode prog_12_method_8_code 23 = .ok (.aload_n 0, 1) := by decide +kernel
theorem d_Md_read_24 : decode prog_12_method_8_code 24 = .ok (.iconst 0, 1) := by decide +kernel
theorem d_Md_read_25 : decode prog_12_method_8_code 25 = .ok (.putfield 87, 3) := by decide +kernel
theorem d_Md_read_28 : decode prog_12_method_8_code 28 = .ok (.aload_n 0, 1) := by decide +kernel
theorem d_Md_read_29 : decode prog_12_method_8_code 29 = .ok (.iconst 0, 1) := by decide +kernel
theorem d_Md_read_30 : decode prog_12_method_8_code 30 = .ok (.putfield 108, 3) := by decide +kernel
theorem d_Md_read_33 : decode prog_12_method_8_code 33 = .ok (.aload_n 0, 1) := by decide +kernel
theorem d_Md_read_34 : decode prog_12_method_8_code 34 = .ok (.getfield 54, 3) := by decide +kernel
theorem d_Md_read_37 : decode prog_12_method_8_code 37 = .ok (.aload_n 0, 1) := by decide +kernel
theorem d_Md_read_38 : decode prog_12_method_8_code 38 = .ok (.getfield 112, 3) := by decide +kernel
theorem d_Md_read_41 : decode prog_12_method_8_code 41 = .ok (.iconst 0, 1) := by decide +kernel
theorem d_Md_read_42 : decode prog_12_method_8_code 42 = .ok (.iastore, 1) := by decide +kernel
theorem d_Md_read_43 : decode prog_12_method_8_code 43 = .ok (.aload_n 0, 1) := by decide +kernel
theorem d_Md_read_44 : decode prog_12_method_8_code 44 = .ok (.getfield 60, 3) := by decide +kernel
theorem d_Md_read_47 : decode prog_12_method_8_code 47 = .ok (.aload_n 0, 1) := by decide +kernel
theorem d_Md_read_48 : decode prog_12_method_8_code 48 = .ok (.getfield 112, 3) := by decide +kernel
theorem d_Md_read_51 : decode prog_12_method_8_code 51 = .ok (.iconst 0, 1) := by decide +kernel
theorem d_Md_read_52 : decode prog_12_method_8_code 52 = .ok (.iastore, 1) := by decide +kernel
theorem d_Md_read_53 : decode prog_12_method_8_code 53 = .ok (.aload_n 0, 1) := by decide +kernel
theorem d_Md_read_54 : decode prog_12_method_8_code 54 = .ok (.iconst 0, 1) := by decide +kernel
theorem d_Md_read_55 : decode prog_12_method_8_code 55 = .ok (.putfield 115, 3) := by decide +kernel
theorem d_Md_read_58 : decode prog_12_method_8_code 58 = .ok (.aload_n 0, 1) := by decide +kernel
theorem d_Md_read_59 : decode prog_12_method_8_code 59 = .ok (.iconst 0, 1) := by decide +kernel
theorem d_Md_read_60 : decode prog_12_method_8_code 60 = .ok (.putfield 118, 3) := by decide +kernel
theorem d_Md_read_63 : decode prog_12_method_8_code 63 = .ok (.aload_n 0, 1) := by decide +kernel
theorem d_Md_read_64 : decode prog_12_method_8_code 64 = .ok (.getfield 51, 3) := by decide +kernel
theorem d_Md_read_67 : decode prog_12_method_8_code 67 = .ok (.aload_n 0, 1) := by decide +kernel
theorem d_Md_read_68 : decode prog_12_method_8_code 68 = .ok (.getfield 112, 3) := by decide +kernel
theorem d_Md_read_71 : decode prog_12_method_8_code 71 = .ok (.iconst 0, 1) := by decide +kernel
theorem d_Md_read_72 : decode prog_12_method_8_code 72 = .ok (.bastore, 1) := by decide +kernel
theorem d_Md_read_73 : decode prog_12_method_8_code 73 = .ok (.aload_n 0, 1) := by decide +kernel
theorem d_Md_read_74 : decode prog_12_method_8_code 74 = .ok (.invokevirtual 96, 3) := by decide +kernel
theorem d_Md_read_77 : decode prog_12_method_8_code 77 = .ok (.istore_n 3, 1) := by decide +kernel
theorem d_Md_read_78 : decode prog_12_method_8_code 78 = .ok (.iload_n 3, 1) := by decide +kernel
theorem d_Md_read_79 : decode prog_12_method_8_code 79 = .ok (.bipush (63), 2) := by decide +kernel
theorem d_Md_read_81 : decode prog_12_method_8_code 81 = .ok (.if_icmp .ne (7), 3) := by decide +kernel
theorem d_Md_read_84 : decode prog_12_method_8_code 84 = .ok (.iconst 2, 1) := by decide +kernel
theorem d_Md_read_85 : decode prog_12_method_8_code 85 = .ok (.goto (34), 3) := by decide +kernel
theorem d_Md_read_88 : decode prog_12_method_8_code 88 = .ok (.iload_n 3, 1) := by decide +kernel
theorem d_Md_read_89 : decode prog_12_method_8_code 89 = .ok (.bipush (33), 2) := by decide +kernel
theorem d_Md_read_91 : decode prog_12_method_8_code 91 = .ok (.if_icmp .ne (7), 3) := by decide +kernel
theorem d_Md_read_94 : decode prog_12_method_8_code 94 = .ok (.iconst 3, 1) := by decide +kernel
theorem d_Md_read_95 : decode prog_12_method_8_code 95 = .ok (.goto (24), 3) := by decide +kernel
theorem d_Md_read_98 : decode prog_12_method_8_code 98 = .ok (.iload_n 3, 1) := by decide +kernel
theorem d_Md_read_99 : decode prog_12_method_8_code 99 = .ok (.bipush (43), 2) := by decide +kernel
theorem d_Md_read_101 : decode prog_12_method_8_code 101 = .ok (.if_icmp .ne (7), 3) := by decide +kernel
theorem d_Md_read_104 : decode prog_12_method_8_code 104 = .ok (.iconst 4, 1) := by decide +kernel
theorem d_Md_read_105 : decode prog_12_method_8_code 105 = .ok (.goto (14), 3) := by decide +kernel
theorem d_Md_read_108 : decode prog_12_method_8_code 108 = .ok (.iload_n 3, 1) := by decide +kernel
theorem d_Md_read_109 : decode prog_12_method_8_code 109 = .ok (.bipush (45), 2) := by decide +kernel
theorem d_Md_read_111 : decode prog_12_method_8_code 111 = .ok (.if_icmp .ne (7), 3) := by decide +kernel
theorem d_Md_read_114 : decode prog_12_method_8_code 114 = .ok (.iconst 5, 1) := by decide +kernel
theorem d_Md_read_115 : decode prog_12_method_8_code 115 = .ok (.goto (4), 3) := by decide +kernel
theorem d_Md_read_118 : decode prog_12_method_8_code 118 = .ok (.iconst 0, 1) := by decide +kernel
theorem d_Md_read_119 : decode prog_12_method_8_code 119 = .ok (.istore 4, 2) := by decide +kernel
theorem d_Md_read_121 : decode prog_12_method_8_code 121 = .ok (.iload 4, 2) := by decide +kernel
theorem d_Md_read_123 : decode prog_12_method_8_code 123 = .ok (.ifCond .ne (88), 3) := by decide +kernel
theorem d_Md_read_126 : decode prog_12_method_8_code 126 = .ok (.aload_n 0, 1) := by decide +kernel
theorem d_Md_read_127 : decode prog_12_method_8_code 127 = .ok (.iconst 0, 1) := by decide +kernel
theorem d_Md_read_128 : decode prog_12_method_8_code 128 = .ok (.invokevirtual 121, 3) := by decide +kernel
theorem d_Md_read_131 : decode prog_12_method_8_code 131 = .ok (.aload_n 0, 1) := by decide +kernel
theorem d_Md_read_132 : decode prog_12_method_8_code 132 = .ok (.aload_n 0, 1) := by decide +kernel
theorem d_Md_read_133 : decode prog_12_method_8_code 133 = .ok (.getfield 115, 3) := by decide +kernel
theorem d_Md_read_136 : decode prog_12_method_8_code 136 = .ok (.putfield 118, 3) := by decide +kernel
theorem d_Md_read_139 : decode prog_12_method_8_code 139 = .ok (.aload_n 0, 1) := by decide +kernel
theorem d_Md_read_140 : decode prog_12_method_8_code 140 = .ok (.iconst 0, 1) := by decide +kernel
theorem d_Md_read_141 : decode prog_12_method_8_code 141 = .ok (.putfield 115, 3) := by decide +kernel
theorem d_Md_read_144 : decode prog_12_method_8_code 144 = .ok (.aload_n 0, 1) := by decide +kernel
theorem d_Md_read_145 : decode prog_12_method_8_code 145 = .ok (.getfield 108, 3) := by decide +kernel
theorem d_Md_read_148 : decode prog_12_method_8_code 148 = .ok (.ifCond .ne (14), 3) := by decide +kernel
theorem d_Md_read_151 : decode prog_12_method_8_code 151 = .ok (.aload_n 0, 1) := by decide +kernel
theorem d_Md_read_152 : decode prog_12_method_8_code 152 = .ok (.invokevirtual 96, 3) := by decide +kernel
theorem d_Md_read_155 : decode prog_12_method_8_code 155 = .ok (.ifCond .eq (7), 3) := by decide +kernel
theorem d_Md_read_158 : decode prog_12_method_8_code 158 = .ok (.iconst 1, 1) := by decide +kernel
theorem d_Md_read_159 : decode prog_12_method_8_code 159 = .ok (.goto (4), 3) := by decide +kernel
theorem d_Md_read_162 : decode prog_12_method_8_code 162 = .ok (.iconst 0, 1) := by decide +kernel
theorem d_Md_read_163 : decode prog_12_method_8_code 163 = .ok (.istore 4, 2) := by decide +kernel
theorem d_Md_read_165 : decode prog_12_method_8_code 165 = .ok (.aload_n 0, 1) := by decide +kernel
theorem d_Md_read_166 : decode prog_12_method_8_code 166 = .ok (.aload_n 0, 1) := by decide +kernel
theorem d_Md_read_167 : decode prog_12_method_8_code 167 = .ok (.getfield 108, 3) := by decide +kernel
theorem d_Md_read_170 : decode prog_12_method_8_code 170 = .ok (.ifCond .ne (30), 3) := by decide +kernel
theorem d_Md_read_173 : decode prog_12_method_8_code 173 = .ok (.iload 4, 2) := by decide +kernel
theorem d_Md_read_175 : decode prog_12_method_8_code 175 = .ok (.iconst 1, 1) := by decide +kernel
theorem d_Md_read_176 : decode prog_12_method_8_code 176 = .ok (.if_icmp .ne (12), 3) := by decide +kernel
theorem d_Md_read_179 : decode prog_12_method_8_code 179 = .ok (.aload_n 0, 1) := by decide +kernel
theorem d_Md_read_180 : decode prog_12_method_8_code 180 = .ok (.bipush (61), 2) := by decide +kernel
theorem d_Md_read_182 : decode prog_12_method_8_code 182 = .ok (.invokevirtual 125, 3) := by decide +kernel
theorem d_Md_read_185 : decode prog_12_method_8_code 185 = .ok (.ifCond .eq (15), 3) := by decide +kernel
theorem d_Md_read_188 : decode prog_12_method_8_code 188 = .ok (.iload 4, 2) := by decide +kernel
theorem d_Md_read_190 : decode prog_12_method_8_code 190 = .ok (.ifCond .ne (14), 3) := by decide +kernel
theorem d_Md_read_193 : decode prog_12_method_8_code 193 = .ok (.aload_n 0, 1) := by decide +kernel
theorem d_Md_read_194 : decode prog_12_method_8_code 194 = .ok (.getfield 118, 3) := by decide +kernel
theorem d_Md_read_197 : decode prog_12_method_8_code 197 = .ok (.ifCond .eq (7), 3) := by decide +kernel
theorem d_Md_read_200 : decode prog_12_method_8_code 200 = .ok (.iconst 1, 1) := by decide +kernel
theorem d_Md_read_201 : decode prog_12_method_8_code 201 = .ok (.goto (4), 3) := by decide +kernel
theorem d_Md_read_204 : decode prog_12_method_8_code 204 = .ok (.iconst 0, 1) := by decide +kernel
theorem d_Md_read_205 : decode prog_12_method_8_code 205 = .ok (.putfield 108, 3) := by decide +kernel
theorem d_Md_read_208 : decode prog_12_method_8_code 208 = .ok (.goto (13), 3) := by decide +kernel
theorem d_Md_read_211 : decode prog_12_method_8_code 211 = .ok (.aload_n 0, 1) := by decide +kernel
theorem d_Md_read_212 : decode prog_12_method_8_code 212 = .ok (.dup, 1) := by decide +kernel
theorem d_Md_read_213 : decode prog_12_method_8_code 213 = .ok (.getfield 87, 3) := by decide +kernel
theorem d_Md_read_216 : decode prog_12_method_8_code 216 = .ok (.iconst 1, 1) := by decide +kernel
theorem d_Md_read_217 : decode prog_12_method_8_code 217 = .ok (.iadd, 1) := by decide +kernel
theorem d_Md_read_218 : decode prog_12_method_8_code 218 = .ok (.putfield 87, 3) := by decide +kernel
theorem d_Md_read_221 : decode prog_12_method_8_code 221 = .ok (.iload 4, 2) := by decide +kernel
theorem d_Md_read_223 : decode prog_12_method_8_code 223 = .ok (.ifCond .le (29), 3) := by decide +kernel
theorem d_Md_read_226 : decode prog_12_method_8_code 226 = .ok (.aload_n 0, 1) := by decide +kernel
theorem d_Md_read_227 : decode prog_12_method_8_code 227 = .ok (.getfield 108, 3) := by decide +kernel
theorem d_Md_read_230 : decode prog_12_method_8_code 230 = .ok (.ifCond .ne (22), 3) := by decide +kernel
theorem d_Md_read_233 : decode prog_12_method_8_code 233 = .ok (.aload_n 0, 1) := by decide +kernel
theorem d_Md_read_234 : decode prog_12_method_8_code 234 = .ok (.invokevirtual 128, 3) := by decide +kernel
theorem d_Md_read_237 : decode prog_12_method_8_code 237 = .ok (.aload_n 0, 1) := by decide +kernel
theorem d_Md_read_238 : decode prog_12_method_8_code 238 = .ok (.getfield 51, 3) := by decide +kernel
theorem d_Md_read_241 : decode prog_12_method_8_code 241 = .ok (.aload_n 0, 1) := by decide +kernel
theorem d_Md_read_242 : decode prog_12_method_8_code 242 = .ok (.getfield 112, 3) := by decide +kernel
theorem d_Md_read_245 : decode prog_12_method_8_code 245 = .ok (.aload_n 0, 1) := by decide +kernel
theorem d_Md_read_246 : decode prog_12_method_8_code 246 = .ok (.bipush (42), 2) := by decide +kernel
theorem d_Md_read_248 : decode prog_12_method_8_code 248 = .ok (.invokevirtual 125, 3) := by decide +kernel
theorem d_Md_read_251 : decode prog_12_method_8_code 251 = .ok (.bastore, 1) := by decide +kernel
theorem d_Md_read_252 : decode prog_12_method_8_code 252 = .ok (.aload_n 0, 1) := by decide +kernel
theorem d_Md_read_253 : decode prog_12_method_8_code 253 = .ok (.aload_n 0, 1) := by decide +kernel
theorem d_Md_read_254 : decode prog_12_method_8_code 254 = .ok (.getfield 108, 3) := by decide +kernel
theorem d_Md_read_257 : decode prog_12_method_8_code 257 = .ok (.ifCond .ne (29), 3) := by decide +kernel
theorem d_Md_read_260 : decode prog_12_method_8_code 260 = .ok (.aload_n 0, 1) := by decide +kernel
theorem d_Md_read_261 : decode prog_12_method_8_code 261 = .ok (.invokevirtual 96, 3) := by decide +kernel
theorem d_Md_read_264 : decode prog_12_method_8_code 264 = .ok (.ifCond .ne (22), 3) := by decide +kernel
theorem d_Md_read_267 : decode prog_12_method_8_code 267 = .ok (.iload 4, 2) := by decide +kernel
theorem d_Md_read_269 : decode prog_12_method_8_code 269 = .ok (.ifCond .le (21), 3) := by decide +kernel
theorem d_Md_read_272 : decode prog_12_method_8_code 272 = .ok (.aload_n 0, 1) := by decide +kernel
theorem d_Md_read_273 : decode prog_12_method_8_code 273 = .ok (.getfield 118, 3) := by decide +kernel
theorem d_Md_read_276 : decode prog_12_method_8_code 276 = .ok (.aload_n 0, 1) := by decide +kernel
theorem d_Md_read_277 : decode prog_12_method_8_code 277 = .ok (.getfield 115, 3) := by decide +kernel
theorem d_Md_read_280 : decode prog_12_method_8_code 280 = .ok (.iconst (-1), 1) := by decide +kernel
theorem d_Md_read_281 : decode prog_12_method_8_code 281 = .ok (.ixor, 1) := by decide +kernel
theorem d_Md_read_282 : decode prog_12_method_8_code 282 = .ok (.iand, 1) := by decide +kernel
theorem d_Md_read_283 : decode prog_12_method_8_code 283 = .ok (.ifCond .eq (7), 3) := by decide +kernel
theorem d_Md_read_286 : decode prog_12_method_8_code 286 = .ok (.iconst 1, 1) := by decide +kernel
theorem d_Md_read_287 : decode prog_12_method_8_code 287 = .ok (.goto (4), 3) := by decide +kernel
theorem d_Md_read_290 : decode prog_12_method_8_code 290 = .ok (.iconst 0, 1) := by decide +kernel
theorem d_Md_read_291 : decode prog_12_method_8_code 291 = .ok (.putfield 108, 3) := by decide +kernel
theorem d_Md_read_294 : decode prog_12_method_8_code 294 = .ok (.aload_n 0, 1) := by decide +kernel
theorem d_Md_read_295 : decode prog_12_method_8_code 295 = .ok (.getfield 45, 3) := by decide +kernel
theorem d_Md_read_298 : decode prog_12_method_8_code 298 = .ok (.aload_n 0, 1) := by decide +kernel
theorem d_Md_read_299 : decode prog_12_method_8_code 299 = .ok (.getfield 112, 3) := by decide +kernel
theorem d_Md_read_302 : decode prog_12_method_8_code 302 = .ok (.aload_n 0, 1) := by decide +kernel
theorem d_Md_read_303 : decode prog_12_method_8_code 303 = .ok (.getfield 108, 3) := by decide +kernel
theorem d_Md_read_306 : decode prog_12_method_8_code 306 = .ok (.ifCond .eq (7), 3) := by decide +kernel
theorem d_Md_read_309 : decode prog_12_method_8_code 309 = .ok (.iconst (-1), 1) := by decide +kernel
theorem d_Md_read_310 : decode prog_12_method_8_code 310 = .ok (.goto (5), 3) := by decide +kernel
theorem d_Md_read_313 : decode prog_12_method_8_code 313 = .ok (.iload 4, 2) := by decide +kernel
theorem d_Md_read_315 : decode prog_12_method_8_code 315 = .ok (.iastore, 1) := by decide +kernel
theorem d_Md_read_316 : decode prog_12_method_8_code 316 = .ok (.aload_n 0, 1) := by decide +kernel
theorem d_Md_read_317 : decode prog_12_method_8_code 317 = .ok (.getfield 45, 3) := by decide +kernel
theorem d_Md_read_320 : decode prog_12_method_8_code 320 = .ok (.aload_n 0, 1) := by decide +kernel
theorem d_Md_read_321 : decode prog_12_method_8_code 321 = .ok (.getfield 112, 3) := by decide +kernel
theorem d_Md_read_324 : decode prog_12_method_8_code 324 = .ok (.iaload, 1) := by decide +kernel
theorem d_Md_read_325 : decode prog_12_method_8_code 325 = .ok (.ireturn, 1) := by decide +kernel
theorem d_Md_here_0 : decode prog_12_method_3_code 0 = .ok (.aload_n 0, 1) := by decide +kernel
theorem d_Md_here_1 : decode prog_12_method_3_code 1 = .ok (.getfield 87, 3) := by decide +kernel
theorem d_Md_here_4 : decode prog_12_method_3_code 4 = .ok (.aload_n 0, 1) := by decide +kernel
theorem d_Md_here_5 : decode prog_12_method_3_code 5 = .ok (.getfield 90, 3) := by decide +kernel
theorem d_Md_here_8 : decode prog_12_method_3_code 8 = .ok (.if_icmp .ge (35), 3) := by decide +kernel
theorem d_Md_here_11 : decode prog_12_method_3_code 11 = .ok (.aload_n 0, 1) := by decide +kernel
theorem d_Md_here_12 : decode prog_12_method_3_code 12 = .ok (.getfield 7, 3) := by decide +kernel
theorem d_Md_here_15 : decode prog_12_method_3_code 15 = .ok (.aload_n 0, 1) := by decide +kernel
theorem d_Md_here_16 : decode prog_12_method_3_code 16 = .ok (.getfield 93, 3) := by decide +kernel
theorem d_Md_here_19 : decode prog_12_method_3_code 19 = .ok (.aload_n 0, 1) := by decide +kernel
theorem d_Md_here_20 : decode prog_12_method_3_code 20 = .ok (.getfield 87, 3) := by decide +kernel
theorem d_Md_here_23 : decode prog_12_method_3_code 23 = .ok (.iadd, 1) := by decide +kernel
theorem d_Md_here_24 : decode prog_12_method_3_code 24 = .ok (.iaload, 1) := by decide +kernel
theorem d_Md_here_25 : decode prog_12_method_3_code 25 = .ok (.bipush (32), 2) := by decide +kernel
theorem d_Md_here_27 : decode prog_12_method_3_code 27 = .ok (.if_icmp .ne (16), 3) := by decide +kernel
theorem d_Md_here_30 : decode prog_12_method_3_code 30 = .ok (.aload_n 0, 1) := by decide +kernel
theorem d_Md_here_31 : decode prog_12_method_3_code 31 = .ok (.dup, 1) := by decide +kernel
theorem d_Md_here_32 : decode prog_12_method_3_code 32 = .ok (.getfield 87, 3) := by decide +kernel
theorem d_Md_here_35 : decode prog_12_method_3_code 35 = .ok (.iconst 1, 1) := by decide +kernel
theorem d_Md_here_36 : decode prog_12_method_3_code 36 = .ok (.iadd, 1) := by decide +kernel
theorem d_Md_here_37 : decode prog_12_method_3_code 37 = .ok (.putfield 87, 3) := by decide +kernel
theorem d_Md_here_40 : decode prog_12_method_3_code 40 = .ok (.goto (-40), 3) := by decide +kernel
theorem d_Md_here_43 : decode prog_12_method_3_code 43 = .ok (.aload_n 0, 1) := by decide +kernel
theorem d_Md_here_44 : decode prog_12_method_3_code 44 = .ok (.getfield 87, 3) := by decide +kernel
theorem d_Md_here_47 : decode prog_12_method_3_code 47 = .ok (.aload_n 0, 1) := by decide +kernel
theorem d_Md_here_48 : decode prog_12_method_3_code 48 = .ok (.getfield 90, 3) := by decide +kernel
theorem d_Md_here_51 : decode prog_12_method_3_code 51 = .ok (.if_icmp .ge (20), 3) := by decide +kernel
theorem d_Md_here_54 : decode prog_12_method_3_code 54 = .ok (.aload_n 0, 1) := by decide +kernel
theorem d_Md_here_55 : decode prog_12_method_3_code 55 = .ok (.getfield 7, 3) := by decide +kernel
theorem d_Md_here_58 : decode prog_12_method_3_code 58 = .ok (.aload_n 0, 1) := by decide +kernel
theorem d_Md_here_59 : decode prog_12_method_3_code 59 = .ok (.getfield 93, 3) := by decide +kernel
theorem d_Md_here_62 : decode prog_12_method_3_code 62 = .ok (.aload_n 0, 1) := by decide +kernel
theorem d_Md_here_63 : decode prog_12_method_3_code 63 = .ok (.getfield 87, 3) := by decide +kernel
theorem d_Md_here_66 : decode prog_12_method_3_code 66 = .ok (.iadd, 1) := by decide +kernel
theorem d_Md_here_67 : decode prog_12_method_3_code 67 = .ok (.iaload, 1) := by decide +kernel
theorem d_Md_here_68 : decode prog_12_method_3_code 68 = .ok (.goto (4), 3) := by decide +kernel
theorem d_Md_here_71 : decode prog_12_method_3_code 71 = .ok (.iconst 0, 1) := by decide +kernel
theorem d_Md_here_72 : decode prog_12_method_3_code 72 = .ok (.ireturn, 1) := by decide +kernel
theorem d_Md_readAtom_0 : decode prog_12_method_10_code 0 = .ok (.aload_n 0, 1) := by decide +kernel
theorem d_Md_readAtom_1 : decode prog_12_method_10_code 1 = .ok (.invokevirtual 96, 3) := by decide +kernel
theorem d_Md_readAtom_4 : decode prog_12_method_10_code 4 = .ok (.istore_n 2, 1) := by decide +kernel
theorem d_Md_readAtom_5 : decode prog_12_method_10_code 5 = .ok (.bipush (16), 2) := by decide +kernel
theorem d_Md_readAtom_7 : decode prog_12_method_10_code 7 = .ok (.aload_n 0, 1) := by decide +kernel
theorem d_Md_readAtom_8 : decode prog_12_method_10_code 8 = .ok (.getfield 112, 3) := by decide +kernel
theorem d_Md_readAtom_11 : decode prog_12_method_10_code 11 = .ok (.imul, 1) := by decide +kernel
theorem d_Md_readAtom_12 : decode prog_12_method_10_code 12 = .ok (.iconst 4, 1) := by decide +kernel
theorem d_Md_readAtom_13 : decode prog_12_method_10_code 13 = .ok (.iload_n 1, 1) := by decide +kernel
theorem d_Md_readAtom_14 : decode prog_12_method_10_code 14 = .ok (.imul, 1) := by decide +kernel
theorem d_Md_readAtom_15 : decode prog_12_method_10_code 15 = .ok (.iadd, 1) := by decide +kernel
theorem d_Md_readAtom_16 : decode prog_12_method_10_code 16 = .ok (.istore_n 3, 1) := by decide +kernel
theorem d_Md_readAtom_17 : decode prog_12_method_10_code 17 = .ok (.aload_n 0, 1) := by decide +kernel
theorem d_Md_readAtom_18 : decode prog_12_method_10_code 18 = .ok (.iload_n 2, 1) := by decide +kernel
theorem d_Md_readAtom_19 : decode prog_12_method_10_code 19 = .ok (.bipush (97), 2) := by decide +kernel
theorem d_Md_readAtom_21 : decode prog_12_method_10_code 21 = .ok (.if_icmp .lt (9), 3) := by decide +kernel
theorem d_Md_readAtom_24 : decode prog_12_method_10_code 24 = .ok (.iload_n 2, 1) := by decide +kernel
theorem d_Md_readAtom_25 : decode prog_12_method_10_code 25 = .ok (.bipush (122), 2) := by decide +kernel
theorem d_Md_readAtom_27 : decode prog_12_method_10_code 27 = .ok (.if_icmp .le (7), 3) := by decide +kernel
theorem d_Md_readAtom_30 : decode prog_12_method_10_code 30 = .ok (.iconst 1, 1) := by decide +kernel
theorem d_Md_readAtom_31 : decode prog_12_method_10_code 31 = .ok (.goto (4), 3) := by decide +kernel
theorem d_Md_readAtom_34 : decode prog_12_method_10_code 34 = .ok (.iconst 0, 1) := by decide +kernel
theorem d_Md_readAtom_35 : decode prog_12_method_10_code 35 = .ok (.putfield 108, 3) := by decide +kernel
theorem d_Md_readAtom_38 : decode prog_12_method_10_code 38 = .ok (.aload_n 0, 1) := by decide +kernel
theorem d_Md_readAtom_39 : decode prog_12_method_10_code 39 = .ok (.dup, 1) := by decide +kernel
theorem d_Md_readAtom_40 : decode prog_12_method_10_code 40 = .ok (.getfield 87, 3) := by decide +kernel
theorem d_Md_readAtom_43 : decode prog_12_method_10_code 43 = .ok (.iconst 1, 1) := by decide +kernel
theorem d_Md_readAtom_44 : decode prog_12_method_10_code 44 = .ok (.iadd, 1) := by decide +kernel
theorem d_Md_readAtom_45 : decode prog_12_method_10_code 45 = .ok (.putfield 87, 3) := by decide +kernel
theorem d_Md_readAtom_48 : decode prog_12_method_10_code 48 = .ok (.aload_n 0, 1) := by decide +kernel
theorem d_Md_readAtom_49 : decode prog_12_method_10_code 49 = .ok (.getfield 57, 3) := by decide +kernel
theorem d_Md_readAtom_52 : decode prog_12_method_10_code 52 = .ok (.iload_n 3, 1) := by decide +kernel
theorem d_Md_readAtom_53 : decode prog_12_method_10_code 53 = .ok (.iload_n 2, 1) := by decide +kernel
theorem d_Md_readAtom_54 : decode prog_12_method_10_code 54 = .ok (.bipush (97), 2) := by decide +kernel
theorem d_Md_readAtom_56 : decode prog_12_method_10_code 56 = .ok (.isub, 1) := by decide +kernel
theorem d_Md_readAtom_57 : decode prog_12_method_10_code 57 = .ok (.iastore, 1) := by decide +kernel
theorem d_Md_readAtom_58 : decode prog_12_method_10_code 58 = .ok (.aload_n 0, 1) := by decide +kernel
theorem d_Md_readAtom_59 : decode prog_12_method_10_code 59 = .ok (.getfield 57, 3) := by decide +kernel
theorem d_Md_readAtom_62 : decode prog_12_method_10_code 62 = .ok (.iload_n 3, 1) := by decide +kernel
theorem d_Md_readAtom_63 : decode prog_12_method_10_code 63 = .ok (.iconst 1, 1) := by decide +kernel
theorem d_Md_readAtom_64 : decode prog_12_method_10_code 64 = .ok (.iadd, 1) := by decide +kernel
theorem d_Md_readAtom_65 : decode prog_12_method_10_code 65 = .ok (.iconst 0, 1) := by decide +kernel
theorem d_Md_readAtom_66 : decode prog_12_method_10_code 66 = .ok (.iastore, 1) := by decide +kernel
theorem d_Md_readAtom_67 : decode prog_12_method_10_code 67 = .ok (.aload_n 0, 1) := by decide +kernel
theorem d_Md_readAtom_68 : decode prog_12_method_10_code 68 = .ok (.getfield 57, 3) := by decide +kernel
theorem d_Md_readAtom_71 : decode prog_12_method_10_code 71 = .ok (.iload_n 3, 1) := by decide +kernel
theorem d_Md_readAtom_72 : decode prog_12_method_10_code 72 = .ok (.iconst 2, 1) := by decide +kernel
theorem d_Md_readAtom_73 : decode prog_12_method_10_code 73 = .ok (.iadd, 1) := by decide +kernel
theorem d_Md_readAtom_74 : decode prog_12_method_10_code 74 = .ok (.iconst 0, 1) := by decide +kernel
theorem d_Md_readAtom_75 : decode prog_12_method_10_code 75 = .ok (.iastore, 1) := by decide +kernel
theorem d_Md_readAtom_76 : decode prog_12_method_10_code 76 = .ok (.aload_n 0, 1) := by decide +kernel
theorem d_Md_readAtom_77 : decode prog_12_method_10_code 77 = .ok (.getfield 57, 3) := by decide +kernel
theorem d_Md_readAtom_80 : decode prog_12_method_10_code 80 = .ok (.iload_n 3, 1) := by decide +kernel
theorem d_Md_readAtom_81 : decode prog_12_method_10_code 81 = .ok (.iconst 3, 1) := by decide +kernel
theorem d_Md_readAtom_82 : decode prog_12_method_10_code 82 = .ok (.iadd, 1) := by decide +kernel
theorem d_Md_readAtom_83 : decode prog_12_method_10_code 83 = .ok (.iconst 0, 1) := by decide +kernel
theorem d_Md_readAtom_84 : decode prog_12_method_10_code 84 = .ok (.iastore, 1) := by decide +kernel
theorem d_Md_readAtom_85 : decode prog_12_method_10_code 85 = .ok (.aload_n 0, 1) := by decide +kernel
theorem d_Md_readAtom_86 : decode prog_12_method_10_code 86 = .ok (.getfield 108, 3) := by decide +kernel
theorem d_Md_readAtom_89 : decode prog_12_method_10_code 89 = .ok (.ifCond .ne (12), 3) := by decide +kernel
theorem d_Md_readAtom_92 : decode prog_12_method_10_code 92 = .ok (.aload_n 0, 1) := by decide +kernel
theorem d_Md_readAtom_93 : decode prog_12_method_10_code 93 = .ok (.bipush (40), 2) := by decide +kernel
theorem d_Md_readAtom_95 : decode prog_12_method_10_code 95 = .ok (.invokevirtual 125, 3) := by decide +kernel
theorem d_Md_readAtom_98 : decode prog_12_method_10_code 98 = .ok (.ifCond .ne (4), 3) := by decide +kernel
theorem d_Md_readAtom_101 : decode prog_12_method_10_code 101 = .ok (.return_, 1) := by decide +kernel
theorem d_Md_readAtom_102 : decode prog_12_method_10_code 102 = .ok (.iconst 1, 1) := by decide +kernel
theorem d_Md_readAtom_103 : decode prog_12_method_10_code 103 = .ok (.istore 4, 2) := by decide +kernel
theorem d_Md_readAtom_105 : decode prog_12_method_10_code 105 = .ok (.iload 4, 2) := by decide +kernel
theorem d_Md_readAtom_107 : decode prog_12_method_10_code 107 = .ok (.ifCond .eq (97), 3) := by decide +kernel
theorem d_Md_readAtom_110 : decode prog_12_method_10_code 110 = .ok (.aload_n 0, 1) := by decide +kernel
theorem d_Md_readAtom_111 : decode prog_12_method_10_code 111 = .ok (.getfield 108, 3) := by decide +kernel
theorem d_Md_readAtom_114 : decode prog_12_method_10_code 114 = .ok (.ifCond .ne (90), 3) := by decide +kernel
theorem d_Md_readAtom_117 : decode prog_12_method_10_code 117 = .ok (.aload_n 0, 1) := by decide +kernel
theorem d_Md_readAtom_118 : decode prog_12_method_10_code 118 = .ok (.getfield 57, 3) := by decide +kernel
theorem d_Md_readAtom_121 : decode prog_12_method_10_code 121 = .ok (.iload_n 3, 1) := by decide +kernel
theorem d_Md_readAtom_122 : decode prog_12_method_10_code 122 = .ok (.iconst 1, 1) := by decide +kernel
theorem d_Md_readAtom_123 : decode prog_12_method_10_code 123 = .ok (.iadd, 1) := by decide +kernel
theorem d_Md_readAtom_124 : decode prog_12_method_10_code 124 = .ok (.dup2, 1) := by decide +kernel
theorem d_Md_readAtom_125 : decode prog_12_method_10_code 125 = .ok (.iaload, 1) := by decide +kernel
theorem d_Md_readAtom_126 : decode prog_12_method_10_code 126 = .ok (.iconst 1, 1) := by decide +kernel
theorem d_Md_readAtom_127 : decode prog_12_method_10_code 127 = .ok (.iadd, 1) := by decide +kernel
theorem d_Md_readAtom_128 : decode prog_12_method_10_code 128 = .ok (.iastore, 1) := by decide +kernel
theorem d_Md_readAtom_129 : decode prog_12_method_10_code 129 = .ok (.aload_n 0, 1) := by decide +kernel
theorem d_Md_readAtom_130 : decode prog_12_method_10_code 130 = .ok (.aload_n 0, 1) := by decide +kernel
theorem d_Md_readAtom_131 : decode prog_12_method_10_code 131 = .ok (.getfield 57, 3) := by decide +kernel
theorem d_Md_readAtom_134 : decode prog_12_method_10_code 134 = .ok (.iload_n 3, 1) := by decide +kernel
theorem d_Md_readAtom_135 : decode prog_12_method_10_code 135 = .ok (.iconst 1, 1) := by decide +kernel
theorem d_Md_readAtom_136 : decode prog_12_method_10_code 136 = .ok (.iadd, 1) := by decide +kernel
theorem d_Md_readAtom_137 : decode prog_12_method_10_code 137 = .ok (.iaload, 1) := by decide +kernel
theorem d_Md_readAtom_138 : decode prog_12_method_10_code 138 = .ok (.iconst 2, 1) := by decide +kernel
theorem d_Md_readAtom_139 : decode prog_12_method_10_code 139 = .ok (.if_icmp .le (7), 3) := by decide +kernel
theorem d_Md_readAtom_142 : decode prog_12_method_10_code 142 = .ok (.iconst 1, 1) := by decide +kernel
theorem d_Md_readAtom_143 : decode prog_12_method_10_code 143 = .ok (.goto (4), 3) := by decide +kernel
theorem d_Md_readAtom_146 : decode prog_12_method_10_code 146 = .ok (.iconst 0, 1) := by decide +kernel
theorem d_Md_readAtom_147 : decode prog_12_method_10_code 147 = .ok (.putfield 108, 3) := by decide +kernel
theorem d_Md_readAtom_150 : decode prog_12_method_10_code 150 = .ok (.aload_n 0, 1) := by decide +kernel
theorem d_Md_readAtom_151 : decode prog_12_method_10_code 151 = .ok (.getfield 108, 3) := by decide +kernel
theorem d_Md_readAtom_154 : decode prog_12_method_10_code 154 = .ok (.ifCond .ne (24), 3) := by decide +kernel
theorem d_Md_readAtom_157 : decode prog_12_method_10_code 157 = .ok (.aload_n 0, 1) := by decide +kernel
theorem d_Md_readAtom_158 : decode prog_12_method_10_code 158 = .ok (.getfield 57, 3) := by decide +kernel
theorem d_Md_readAtom_161 : decode prog_12_method_10_code 161 = .ok (.iload_n 3, 1) := by decide +kernel
theorem d_Md_readAtom_162 : decode prog_12_method_10_code 162 = .ok (.iconst 1, 1) := by decide +kernel
theorem d_Md_readAtom_163 : decode prog_12_method_10_code 163 = .ok (.iadd, 1) := by decide +kernel
theorem d_Md_readAtom_164 : decode prog_12_method_10_code 164 = .ok (.aload_n 0, 1) := by decide +kernel
theorem d_Md_readAtom_165 : decode prog_12_method_10_code 165 = .ok (.getfield 57, 3) := by decide +kernel
theorem d_Md_readAtom_168 : decode prog_12_method_10_code 168 = .ok (.iload_n 3, 1) := by decide +kernel
theorem d_Md_readAtom_169 : decode prog_12_method_10_code 169 = .ok (.iconst 1, 1) := by decide +kernel
theorem d_Md_readAtom_170 : decode prog_12_method_10_code 170 = .ok (.iadd, 1) := by decide +kernel
theorem d_Md_readAtom_171 : decode prog_12_method_10_code 171 = .ok (.iaload, 1) := by decide +kernel
theorem d_Md_readAtom_172 : decode prog_12_method_10_code 172 = .ok (.iadd, 1) := by decide +kernel
theorem d_Md_readAtom_173 : decode prog_12_method_10_code 173 = .ok (.aload_n 0, 1) := by decide +kernel
theorem d_Md_readAtom_174 : decode prog_12_method_10_code 174 = .ok (.invokevirtual 134, 3) := by decide +kernel
theorem d_Md_readAtom_177 : decode prog_12_method_10_code 177 = .ok (.iastore, 1) := by decide +kernel
theorem d_Md_readAtom_178 : decode prog_12_method_10_code 178 = .ok (.aload_n 0, 1) := by decide +kernel
theorem d_Md_readAtom_179 : decode prog_12_method_10_code 179 = .ok (.getfield 108, 3) := by decide +kernel
theorem d_Md_readAtom_182 : decode prog_12_method_10_code 182 = .ok (.ifCond .ne (16), 3) := by decide +kernel
theorem d_Md_readAtom_185 : decode prog_12_method_10_code 185 = .ok (.aload_n 0, 1) := by decide +kernel
theorem d_Md_readAtom_186 : decode prog_12_method_10_code 186 = .ok (.bipush (44), 2) := by decide +kernel
theorem d_Md_readAtom_188 : decode prog_12_method_10_code 188 = .ok (.invokevirtual 125, 3) := by decide +kernel
theorem d_Md_readAtom_191 : decode prog_12_method_10_code 191 = .ok (.ifCond .eq (7), 3) := by decide +kernel
theorem d_Md_readAtom_194 : decode prog_12_method_10_code 194 = .ok (.iconst 1, 1) := by decide +kernel
theorem d_Md_readAtom_195 : decode prog_12_method_10_code 195 = .ok (.goto (4), 3) := by decide +kernel
theorem d_Md_readAtom_198 : decode prog_12_method_10_code 198 = .ok (.iconst 0, 1) := by decide +kernel
theorem d_Md_readAtom_199 : decode prog_12_method_10_code 199 = .ok (.istore 4, 2) := by decide +kernel
theorem d_Md_readAtom_201 : decode prog_12_method_10_code 201 = .ok (.goto (-96), 3) := by decide +kernel
theorem d_Md_readAtom_204 : decode prog_12_method_10_code 204 = .ok (.aload_n 0, 1) := by decide +kernel
theorem d_Md_readAtom_205 : decode prog_12_method_10_code 205 = .ok (.aload_n 0, 1) := by decide +kernel
theorem d_Md_readAtom_206 : decode prog_12_method_10_code 206 = .ok (.getfield 108, 3) := by decide +kernel
theorem d_Md_readAtom_209 : decode prog_12_method_10_code 209 = .ok (.ifCond .ne (12), 3) := by decide +kernel
theorem d_Md_readAtom_212 : decode prog_12_method_10_code 212 = .ok (.aload_n 0, 1) := by decide +kernel
theorem d_Md_readAtom_213 : decode prog_12_method_10_code 213 = .ok (.bipush (41), 2) := by decide +kernel
theorem d_Md_readAtom_215 : decode prog_12_method_10_code 215 = .ok (.invokevirtual 125, 3) := by decide +kernel
theorem d_Md_readAtom_218 : decode prog_12_method_10_code 218 = .ok (.ifCond .ne (7), 3) := by decide +kernel
theorem d_Md_readAtom_221 : decode prog_12_method_10_code 221 = .ok (.iconst 1, 1) := by decide +kernel
theorem d_Md_readAtom_222 : decode prog_12_method_10_code 222 = .ok (.goto (4), 3) := by decide +kernel
theorem d_Md_readAtom_225 : decode prog_12_method_10_code 225 = .ok (.iconst 0, 1) := by decide +kernel
theorem d_Md_readAtom_226 : decode prog_12_method_10_code 226 = .ok (.putfield 108, 3) := by decide +kernel
theorem d_Md_readAtom_229 : decode prog_12_method_10_code 229 = .ok (.return_, 1) := by decide +kernel
theorem d_Md_next_0 : decode prog_12_method_4_code 0 = .ok (.aload_n 0, 1) := by decide +kernel
theorem d_Md_next_1 : decode prog_12_method_4_code 1 = .ok (.invokevirtual 96, 3) := by decide +kernel
theorem d_Md_next_4 : decode prog_12_method_4_code 4 = .ok (.iload_n 1, 1) := by decide +kernel
theorem d_Md_next_5 : decode prog_12_method_4_code 5 = .ok (.if_icmp .ne (7), 3) := by decide +kernel
theorem d_Md_next_8 : decode prog_12_method_4_code 8 = .ok (.iconst 1, 1) := by decide +kernel
theorem d_Md_next_9 : decode prog_12_method_4_code 9 = .ok (.goto (4), 3) := by decide +kernel
theorem d_Md_next_12 : decode prog_12_method_4_code 12 = .ok (.iconst 0, 1) := by decide +kernel
theorem d_Md_next_13 : decode prog_12_method_4_code 13 = .ok (.istore_n 2, 1) := by decide +kernel
theorem d_Md_next_14 : decode prog_12_method_4_code 14 = .ok (.aload_n 0, 1) := by decide +kernel
theorem d_Md_next_15 : decode prog_12_method_4_code 15 = .ok (.iload_n 2, 1) := by decide +kernel
theorem d_Md_next_16 : decode prog_12_method_4_code 16 = .ok (.ifCond .eq (12), 3) := by decide +kernel
theorem d_Md_next_19 : decode prog_12_method_4_code 19 = .ok (.aload_n 0, 1) := by decide +kernel
theorem d_Md_next_20 : decode prog_12_method_4_code 20 = .ok (.getfield 87, 3) := by decide +kernel
theorem d_Md_next_23 : decode prog_12_method_4_code 23 = .ok (.iconst 1, 1) := by decide +kernel
theorem d_Md_next_24 : decode prog_12_method_4_code 24 = .ok (.iadd, 1) := by decide +kernel
theorem d_Md_next_25 : decode prog_12_method_4_code 25 = .ok (.goto (7), 3) := by decide +kernel
theorem d_Md_next_28 : decode prog_12_method_4_code 28 = .ok (.aload_n 0, 1) := by decide +kernel
theorem d_Md_next_29 : decode prog_12_method_4_code 29 = .ok (.getfield 87, 3) := by decide +kernel
theorem d_Md_next_32 : decode prog_12_method_4_code 32 = .ok (.putfield 87, 3) := by decide +kernel
theorem d_Md_next_35 : decode prog_12_method_4_code 35 = .ok (.iload_n 2, 1) := by decide +kernel
theorem d_Md_next_36 : decode prog_12_method_4_code 36 = .ok (.ireturn, 1) := by decide +kernel
theorem d_Md_term_0 : decode prog_12_method_11_code 0 = .ok (.aload_n 0, 1) := by decide +kernel
theorem d_Md_term_1 : decode prog_12_method_11_code 1 = .ok (.invokevirtual 96, 3) := by decide +kernel
theorem d_Md_term_4 : decode prog_12_method_11_code 4 = .ok (.istore_n 1, 1) := by decide +kernel
theorem d_Md_term_5 : decode prog_12_method_11_code 5 = .ok (.iload_n 1, 1) := by decide +kernel
theorem d_Md_term_6 : decode prog_12_method_11_code 6 = .ok (.bipush (65), 2) := by decide +kernel
theorem d_Md_term_8 : decode prog_12_method_11_code 8 = .ok (.if_icmp .lt (42), 3) := by decide +kernel
theorem d_Md_term_11 : decode prog_12_method_11_code 11 = .ok (.iload_n 1, 1) := by decide +kernel
theorem d_Md_term_12 : decode prog_12_method_11_code 12 = .ok (.bipush (72), 2) := by decide +kernel
theorem d_Md_term_14 : decode prog_12_method_11_code 14 = .ok (.if_icmp .gt (36), 3) := by decide +kernel
theorem d_Md_term_17 : decode prog_12_method_11_code 17 = .ok (.aload_n 0, 1) := by decide +kernel
theorem d_Md_term_18 : decode prog_12_method_11_code 18 = .ok (.dup, 1) := by decide +kernel
theorem d_Md_term_19 : decode prog_12_method_11_code 19 = .ok (.getfield 87, 3) := by decide +kernel
theorem d_Md_term_22 : decode prog_12_method_11_code 22 = .ok (.iconst 1, 1) := by decide +kernel
theorem d_Md_term_23 : decode prog_12_method_11_code 23 = .ok (.iadd, 1) := by decide +kernel
theorem d_Md_term_24 : decode prog_12_method_11_code 24 = .ok (.putfield 87, 3) := by decide +kernel
theorem d_Md_term_27 : decode prog_12_method_11_code 27 = .ok (.aload_n 0, 1) := by decide +kernel
theorem d_Md_term_28 : decode prog_12_method_11_code 28 = .ok (.dup, 1) := by decide +kernel
theorem d_Md_term_29 : decode prog_12_method_11_code 29 = .ok (.getfield 115, 3) := by decide +kernel
theorem d_Md_term_32 : decode prog_12_method_11_code 32 = .ok (.iconst 1, 1) := by decide +kernel
theorem d_Md_term_33 : decode prog_12_method_11_code 33 = .ok (.iload_n 1, 1) := by decide +kernel
theorem d_Md_term_34 : decode prog_12_method_11_code 34 = .ok (.bipush (65), 2) := by decide +kernel
theorem d_Md_term_36 : decode prog_12_method_11_code 36 = .ok (.isub, 1) := by decide +kernel
theorem d_Md_term_37 : decode prog_12_method_11_code 37 = .ok (.ishl, 1) := by decide +kernel
theorem d_Md_term_38 : decode prog_12_method_11_code 38 = .ok (.ior, 1) := by decide +kernel
theorem d_Md_term_39 : decode prog_12_method_11_code 39 = .ok (.putfield 115, 3) := by decide +kernel
theorem d_Md_term_42 : decode prog_12_method_11_code 42 = .ok (.ldc 137, 2) := by decide +kernel
theorem d_Md_term_44 : decode prog_12_method_11_code 44 = .ok (.iload_n 1, 1) := by decide +kernel
theorem d_Md_term_45 : decode prog_12_method_11_code 45 = .ok (.iadd, 1) := by decide +kernel
theorem d_Md_term_46 : decode prog_12_method_11_code 46 = .ok (.bipush (65), 2) := by decide +kernel
theorem d_Md_term_48 : decode prog_12_method_11_code 48 = .ok (.isub, 1) := by decide +kernel
theorem d_Md_term_49 : decode prog_12_method_11_code 49 = .ok (.ireturn, 1) := by decide +kernel
theorem d_Md_term_50 : decode prog_12_method_11_code 50 = .ok (.iload_n 1, 1) := by decide +kernel
theorem d_Md_term_51 : decode prog_12_method_11_code 51 = .ok (.bipush (45), 2) := by decide +kernel
theorem d_Md_term_53 : decode prog_12_method_11_code 53 = .ok (.if_icmp .ne (7), 3) := by decide +kernel
theorem d_Md_term_56 : decode prog_12_method_11_code 56 = .ok (.iconst 1, 1) := by decide +kernel
theorem d_Md_term_57 : decode prog_12_method_11_code 57 = .ok (.goto (4), 3) := by decide +kernel
theorem d_Md_term_60 : decode prog_12_method_11_code 60 = .ok (.iconst 0, 1) := by decide +kernel
theorem d_Md_term_61 : decode prog_12_method_11_code 61 = .ok (.istore_n 2, 1) := by decide +kernel
theorem d_Md_term_62 : decode prog_12_method_11_code 62 = .ok (.aload_n 0, 1) := by decide +kernel
theorem d_Md_term_63 : decode prog_12_method_11_code 63 = .ok (.iload_n 2, 1) := by decide +kernel
theorem d_Md_term_64 : decode prog_12_method_11_code 64 = .ok (.ifCond .eq (12), 3) := by decide +kernel
theorem d_Md_term_67 : decode prog_12_method_11_code 67 = .ok (.aload_n 0, 1) := by decide +kernel
theorem d_Md_term_68 : decode prog_12_method_11_code 68 = .ok (.getfield 87, 3) := by decide +kernel
theorem d_Md_term_71 : decode prog_12_method_11_code 71 = .ok (.iconst 1, 1) := by decide +kernel
theorem d_Md_term_72 : decode prog_12_method_11_code 72 = .ok (.iadd, 1) := by decide +kernel
theorem d_Md_term_73 : decode prog_12_method_11_code 73 = .ok (.goto (7), 3) := by decide +kernel
theorem d_Md_term_76 : decode prog_12_method_11_code 76 = .ok (.aload_n 0, 1) := by decide +kernel
theorem d_Md_term_77 : decode prog_12_method_11_code 77 = .ok (.getfield 87, 3) := by decide +kernel
theorem d_Md_term_80 : decode prog_12_method_11_code 80 = .ok (.putfield 87, 3) := by decide +kernel
theorem d_Md_term_83 : decode prog_12_method_11_code 83 = .ok (.aload_n 0, 1) := by decide +kernel
theorem d_Md_term_84 : decode prog_12_method_11_code 84 = .ok (.invokevirtual 138, 3) := by decide +kernel
theorem d_Md_term_87 : decode prog_12_method_11_code 87 = .ok (.istore_n 3, 1) := by decide +kernel
theorem d_Md_term_88 : decode prog_12_method_11_code 88 = .ok (.sipush (10000), 3) := by decide +kernel
theorem d_Md_term_91 : decode prog_12_method_11_code 91 = .ok (.iload_n 2, 1) := by decide +kernel
theorem d_Md_term_92 : decode prog_12_method_11_code 92 = .ok (.ifCond .eq (8), 3) := by decide +kernel
theorem d_Md_term_95 : decode prog_12_method_11_code 95 = .ok (.iload_n 3, 1) := by decide +kernel
theorem d_Md_term_96 : decode prog_12_method_11_code 96 = .ok (.ineg, 1) := by decide +kernel
theorem d_Md_term_97 : decode prog_12_method_11_code 97 = .ok (.goto (4), 3) := by decide +kernel
theorem d_Md_term_100 : decode prog_12_method_11_code 100 = .ok (.iload_n 3, 1) := by decide +kernel
theorem d_Md_term_101 : decode prog_12_method_11_code 101 = .ok (.iadd, 1) := by decide +kernel
theorem d_Md_term_102 : decode prog_12_method_11_code 102 = .ok (.ireturn, 1) := by decide +kernel
theorem d_Md_number_0 : decode prog_12_method_7_code 0 = .ok (.iconst 0, 1) := by decide +kernel
theorem d_Md_number_1 : decode prog_12_method_7_code 1 = .ok (.istore_n 1, 1) := by decide +kernel
theorem d_Md_number_2 : decode prog_12_method_7_code 2 = .ok (.iconst 0, 1) := by decide +kernel
theorem d_Md_number_3 : decode prog_12_method_7_code 3 = .ok (.istore_n 2, 1) := by decide +kernel
theorem d_Md_number_4 : decode prog_12_method_7_code 4 = .ok (.aload_n 0, 1) := by decide +kernel
theorem d_Md_number_5 : decode prog_12_method_7_code 5 = .ok (.aload_n 0, 1) := by decide +kernel
theorem d_Md_number_6 : decode prog_12_method_7_code 6 = .ok (.getfield 87, 3) := by decide +kernel
theorem d_Md_number_9 : decode prog_12_method_7_code 9 = .ok (.invokevirtual 100, 3) := by decide +kernel
theorem d_Md_number_12 : decode prog_12_method_7_code 12 = .ok (.invokestatic 104, 3) := by decide +kernel
theorem d_Md_number_15 : decode prog_12_method_7_code 15 = .ok (.ifCond .eq (41), 3) := by decide +kernel
theorem d_Md_number_18 : decode prog_12_method_7_code 18 = .ok (.iload_n 2, 1) := by decide +kernel
theorem d_Md_number_19 : decode prog_12_method_7_code 19 = .ok (.iconst 5, 1) := by decide +kernel
theorem d_Md_number_20 : decode prog_12_method_7_code 20 = .ok (.if_icmp .ge (36), 3) := by decide +kernel
theorem d_Md_number_23 : decode prog_12_method_7_code 23 = .ok (.bipush (10), 2) := by decide +kernel
theorem d_Md_number_25 : decode prog_12_method_7_code 25 = .ok (.iload_n 1, 1) := by decide +kernel
theorem d_Md_number_26 : decode prog_12_method_7_code 26 = .ok (.imul, 1) := by decide +kernel
theorem d_Md_number_27 : decode prog_12_method_7_code 27 = .ok (.aload_n 0, 1) := by decide +kernel
theorem d_Md_number_28 : decode prog_12_method_7_code 28 = .ok (.aload_n 0, 1) := by decide +kernel
theorem d_Md_number_29 : decode prog_12_method_7_code 29 = .ok (.getfield 87, 3) := by decide +kernel
theorem d_Md_number_32 : decode prog_12_method_7_code 32 = .ok (.invokevirtual 100, 3) := by decide +kernel
theorem d_Md_number_35 : decode prog_12_method_7_code 35 = .ok (.iadd, 1) := by decide +kernel
theorem d_Md_number_36 : decode prog_12_method_7_code 36 = .ok (.bipush (48), 2) := by decide +kernel
theorem d_Md_number_38 : decode prog_12_method_7_code 38 = .ok (.isub, 1) := by decide +kernel
theorem d_Md_number_39 : decode prog_12_method_7_code 39 = .ok (.istore_n 1, 1) := by decide +kernel
theorem d_Md_number_40 : decode prog_12_method_7_code 40 = .ok (.aload_n 0, 1) := by decide +kernel
theorem d_Md_number_41 : decode prog_12_method_7_code 41 = .ok (.dup, 1) := by decide +kernel
theorem d_Md_number_42 : decode prog_12_method_7_code 42 = .ok (.getfield 87, 3) := by decide +kernel
theorem d_Md_number_45 : decode prog_12_method_7_code 45 = .ok (.iconst 1, 1) := by decide +kernel
theorem d_Md_number_46 : decode prog_12_method_7_code 46 = .ok (.iadd, 1) := by decide +kernel
theorem d_Md_number_47 : decode prog_12_method_7_code 47 = .ok (.putfield 87, 3) := by decide +kernel
theorem d_Md_number_50 : decode prog_12_method_7_code 50 = .ok (.iinc 2 (1), 3) := by decide +kernel
theorem d_Md_number_53 : decode prog_12_method_7_code 53 = .ok (.goto (-49), 3) := by decide +kernel
theorem d_Md_number_56 : decode prog_12_method_7_code 56 = .ok (.aload_n 0, 1) := by decide +kernel
theorem d_Md_number_57 : decode prog_12_method_7_code 57 = .ok (.aload_n 0, 1) := by decide +kernel
theorem d_Md_number_58 : decode prog_12_method_7_code 58 = .ok (.getfield 108, 3) := by decide +kernel
theorem d_Md_number_61 : decode prog_12_method_7_code 61 = .ok (.ifCond .ne (12), 3) := by decide +kernel
theorem d_Md_number_64 : decode prog_12_method_7_code 64 = .ok (.iload_n 2, 1) := by decide +kernel
theorem d_Md_number_65 : decode prog_12_method_7_code 65 = .ok (.ifCond .eq (8), 3) := by decide +kernel
theorem d_Md_number_68 : decode prog_12_method_7_code 68 = .ok (.iload_n 2, 1) := by decide +kernel
theorem d_Md_number_69 : decode prog_12_method_7_code 69 = .ok (.iconst 4, 1) := by decide +kernel
theorem d_Md_number_70 : decode prog_12_method_7_code 70 = .ok (.if_icmp .le (7), 3) := by decide +kernel
theorem d_Md_number_73 : decode prog_12_method_7_code 73 = .ok (.iconst 1, 1) := by decide +kernel
theorem d_Md_number_74 : decode prog_12_method_7_code 74 = .ok (.goto (4), 3) := by decide +kernel
theorem d_Md_number_77 : decode prog_12_method_7_code 77 = .ok (.iconst 0, 1) := by decide +kernel
theorem d_Md_number_78 : decode prog_12_method_7_code 78 = .ok (.putfield 108, 3) := by decide +kernel
theorem d_Md_number_81 : decode prog_12_method_7_code 81 = .ok (.iload_n 1, 1) := by decide +kernel
theorem d_Md_number_82 : decode prog_12_method_7_code 82 = .ok (.ireturn, 1) := by decide +kernel
theorem d_Md_peek_0 : decode prog_12_method_6_code 0 = .ok (.iload_n 1, 1) := by decide +kernel
theorem d_Md_peek_1 : decode prog_12_method_6_code 1 = .ok (.aload_n 0, 1) := by decide +kernel
theorem d_Md_peek_2 : decode prog_12_method_6_code 2 = .ok (.getfield 90, 3) := by decide +kernel
theorem d_Md_peek_5 : decode prog_12_method_6_code 5 = .ok (.if_icmp .ge (17), 3) := by decide +kernel
theorem d_Md_peek_8 : decode prog_12_method_6_code 8 = .ok (.aload_n 0, 1) := by decide +kernel
theorem d_Md_peek_9 : decode prog_12_method_6_code 9 = .ok (.getfield 7, 3) := by decide +kernel
theorem d_Md_peek_12 : decode prog_12_method_6_code 12 = .ok (.aload_n 0, 1) := by decide +kernel
theorem d_Md_peek_13 : decode prog_12_method_6_code 13 = .ok (.getfield 93, 3) := by decide +kernel
theorem d_Md_peek_16 : decode prog_12_method_6_code 16 = .ok (.iload_n 1, 1) := by decide +kernel
theorem d_Md_peek_17 : decode prog_12_method_6_code 17 = .ok (.iadd, 1) := by decide +kernel
theorem d_Md_peek_18 : decode prog_12_method_6_code 18 = .ok (.iaload, 1) := by decide +kernel
theorem d_Md_peek_19 : decode prog_12_method_6_code 19 = .ok (.goto (4), 3) := by decide +kernel
theorem d_Md_peek_22 : decode prog_12_method_6_code 22 = .ok (.iconst 0, 1) := by decide +kernel
theorem d_Md_peek_23 : decode prog_12_method_6_code 23 = .ok (.ireturn, 1) := by decide +kernel
theorem d_Md_digit_0 : decode prog_12_method_5_code 0 = .ok (.iload_n 0, 1) := by decide +kernel
theorem d_Md_digit_1 : decode prog_12_method_5_code 1 = .ok (.bipush (48), 2) := by decide +kernel
theorem d_Md_digit_3 : decode prog_12_method_5_code 3 = .ok (.if_icmp .lt (13), 3) := by decide +kernel
theorem d_Md_digit_6 : decode prog_12_method_5_code 6 = .ok (.iload_n 0, 1) := by decide +kernel
theorem d_Md_digit_7 : decode prog_12_method_5_code 7 = .ok (.bipush (57), 2) := by decide +kernel
theorem d_Md_digit_9 : decode prog_12_method_5_code 9 = .ok (.if_icmp .gt (7), 3) := by decide +kernel
theorem d_Md_digit_12 : decode prog_12_method_5_code 12 = .ok (.iconst 1, 1) := by decide +kernel
theorem d_Md_digit_13 : decode prog_12_method_5_code 13 = .ok (.goto (4), 3) := by decide +kernel
theorem d_Md_digit_16 : decode prog_12_method_5_code 16 = .ok (.iconst 0, 1) := by decide +kernel
theorem d_Md_digit_17 : decode prog_12_method_5_code 17 = .ok (.ireturn, 1) := by decide +kernel
