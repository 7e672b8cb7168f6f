theorem d_Md_complete_0 : decode prog_12_method_45_code 0 = .ok (.aload_n 0, 1) := by decide +kernel
theorem d_Md_complete_1 : decode prog_12_method_45_code 1 = .ok (.iload_n 1, 1) := by decide +kernel
theorem d_Md_complete_2 : decode prog_12_method_45_code 2 = .ok (.invokevirtual 243, 3) := by decide +kernel
theorem d_Md_complete_5 : decode prog_12_method_45_code 5 = .ok (.istore_n 3, 1) := by decide +kernel
theorem d_Md_complete_6 : decode prog_12_method_45_code 6 = .ok (.aload_n 0, 1) := by decide +kernel
theorem d_Md_complete_7 : decode prog_12_method_45_code 7 = .ok (.iconst 1, 1) := by decide +kernel
theorem d_Md_complete_8 : decode prog_12_method_45_code 8 = .ok (.putfield 221, 3) := by decide +kernel
theorem d_Md_complete_11 : decode prog_12_method_45_code 11 = .ok (.aload_n 0, 1) := by decide +kernel
theorem d_Md_complete_12 : decode prog_12_method_45_code 12 = .ok (.aload_n 0, 1) := by decide +kernel
theorem d_Md_complete_13 : decode prog_12_method_45_code 13 = .ok (.getfield 224, 3) := by decide +kernel
theorem d_Md_complete_16 : decode prog_12_method_45_code 16 = .ok (.ifCond .ne (8), 3) := by decide +kernel
theorem d_Md_complete_19 : decode prog_12_method_45_code 19 = .ok (.iload_n 3, 1) := by decide +kernel
theorem d_Md_complete_20 : decode prog_12_method_45_code 20 = .ok (.iconst 1, 1) := by decide +kernel
theorem d_Md_complete_21 : decode prog_12_method_45_code 21 = .ok (.if_icmp .ne (7), 3) := by decide +kernel
theorem d_Md_complete_24 : decode prog_12_method_45_code 24 = .ok (.iconst 1, 1) := by decide +kernel
theorem d_Md_complete_25 : decode prog_12_method_45_code 25 = .ok (.goto (4), 3) := by decide +kernel
theorem d_Md_complete_28 : decode prog_12_method_45_code 28 = .ok (.iconst 0, 1) := by decide +kernel
theorem d_Md_complete_29 : decode prog_12_method_45_code 29 = .ok (.putfield 224, 3) := by decide +kernel
theorem d_Md_complete_32 : decode prog_12_method_45_code 32 = .ok (.aload_n 0, 1) := by decide +kernel
theorem d_Md_complete_33 : decode prog_12_method_45_code 33 = .ok (.aload_n 0, 1) := by decide +kernel
theorem d_Md_complete_34 : decode prog_12_method_45_code 34 = .ok (.getfield 227, 3) := by decide +kernel
theorem d_Md_complete_37 : decode prog_12_method_45_code 37 = .ok (.ifCond .ne (8), 3) := by decide +kernel
theorem d_Md_complete_40 : decode prog_12_method_45_code 40 = .ok (.iload_n 3, 1) := by decide +kernel
theorem d_Md_complete_41 : decode prog_12_method_45_code 41 = .ok (.iconst 2, 1) := by decide +kernel
theorem d_Md_complete_42 : decode prog_12_method_45_code 42 = .ok (.if_icmp .ne (7), 3) := by decide +kernel
theorem d_Md_complete_45 : decode prog_12_method_45_code 45 = .ok (.iconst 1, 1) := by decide +kernel
theorem d_Md_complete_46 : decode prog_12_method_45_code 46 = .ok (.goto (4), 3) := by decide +kernel
theorem d_Md_complete_49 : decode prog_12_method_45_code 49 = .ok (.iconst 0, 1) := by decide +kernel
theorem d_Md_complete_50 : decode prog_12_method_45_code 50 = .ok (.putfield 227, 3) := by decide +kernel
theorem d_Md_complete_53 : decode prog_12_method_45_code 53 = .ok (.aload_n 0, 1) := by decide +kernel
theorem d_Md_complete_54 : decode prog_12_method_45_code 54 = .ok (.aload_n 0, 1) := by decide +kernel
theorem d_Md_complete_55 : decode prog_12_method_45_code 55 = .ok (.getfield 230, 3) := by decide +kernel
theorem d_Md_complete_58 : decode prog_12_method_45_code 58 = .ok (.ifCond .eq (12), 3) := by decide +kernel
theorem d_Md_complete_61 : decode prog_12_method_45_code 61 = .ok (.iload_n 3, 1) := by decide +kernel
theorem d_Md_complete_62 : decode prog_12_method_45_code 62 = .ok (.iconst 1, 1) := by decide +kernel
theorem d_Md_complete_63 : decode prog_12_method_45_code 63 = .ok (.if_icmp .ne (7), 3) := by decide +kernel
theorem d_Md_complete_66 : decode prog_12_method_45_code 66 = .ok (.iconst 1, 1) := by decide +kernel
theorem d_Md_complete_67 : decode prog_12_method_45_code 67 = .ok (.goto (4), 3) := by decide +kernel
theorem d_Md_complete_70 : decode prog_12_method_45_code 70 = .ok (.iconst 0, 1) := by decide +kernel
theorem d_Md_complete_71 : decode prog_12_method_45_code 71 = .ok (.putfield 230, 3) := by decide +kernel
theorem d_Md_complete_74 : decode prog_12_method_45_code 74 = .ok (.iload_n 2, 1) := by decide +kernel
theorem d_Md_complete_75 : decode prog_12_method_45_code 75 = .ok (.ifCond .eq (136), 3) := by decide +kernel
theorem d_Md_complete_78 : decode prog_12_method_45_code 78 = .ok (.iload_n 3, 1) := by decide +kernel
theorem d_Md_complete_79 : decode prog_12_method_45_code 79 = .ok (.iconst 1, 1) := by decide +kernel
theorem d_Md_complete_80 : decode prog_12_method_45_code 80 = .ok (.if_icmp .ne (131), 3) := by decide +kernel
theorem d_Md_complete_83 : decode prog_12_method_45_code 83 = .ok (.iconst 1, 1) := by decide +kernel
theorem d_Md_complete_84 : decode prog_12_method_45_code 84 = .ok (.aload_n 0, 1) := by decide +kernel
theorem d_Md_complete_85 : decode prog_12_method_45_code 85 = .ok (.getfield 48, 3) := by decide +kernel
theorem d_Md_complete_88 : decode prog_12_method_45_code 88 = .ok (.iload_n 1, 1) := by decide +kernel
theorem d_Md_complete_89 : decode prog_12_method_45_code 89 = .ok (.iaload, 1) := by decide +kernel
theorem d_Md_complete_90 : decode prog_12_method_45_code 90 = .ok (.ishl, 1) := by decide +kernel
theorem d_Md_complete_91 : decode prog_12_method_45_code 91 = .ok (.istore 4, 2) := by decide +kernel
theorem d_Md_complete_93 : decode prog_12_method_45_code 93 = .ok (.iconst 1, 1) := by decide +kernel
theorem d_Md_complete_94 : decode prog_12_method_45_code 94 = .ok (.istore 5, 2) := by decide +kernel
theorem d_Md_complete_96 : decode prog_12_method_45_code 96 = .ok (.iload 5, 2) := by decide +kernel
theorem d_Md_complete_98 : decode prog_12_method_45_code 98 = .ok (.aload_n 0, 1) := by decide +kernel
theorem d_Md_complete_99 : decode prog_12_method_45_code 99 = .ok (.getfield 54, 3) := by decide +kernel
theorem d_Md_complete_102 : decode prog_12_method_45_code 102 = .ok (.iload_n 1, 1) := by decide +kernel
theorem d_Md_complete_103 : decode prog_12_method_45_code 103 = .ok (.iaload, 1) := by decide +kernel
theorem d_Md_complete_104 : decode prog_12_method_45_code 104 = .ok (.if_icmp .gt (30), 3) := by decide +kernel
theorem d_Md_complete_107 : decode prog_12_method_45_code 107 = .ok (.iload 4, 2) := by decide +kernel
theorem d_Md_complete_109 : decode prog_12_method_45_code 109 = .ok (.aload_n 0, 1) := by decide +kernel
theorem d_Md_complete_110 : decode prog_12_method_45_code 110 = .ok (.getfield 69, 3) := by decide +kernel
theorem d_Md_complete_113 : decode prog_12_method_45_code 113 = .ok (.iconst 5, 1) := by decide +kernel
theorem d_Md_complete_114 : decode prog_12_method_45_code 114 = .ok (.aload_n 0, 1) := by decide +kernel
theorem d_Md_complete_115 : decode prog_12_method_45_code 115 = .ok (.getfield 72, 3) := by decide +kernel
theorem d_Md_complete_118 : decode prog_12_method_45_code 118 = .ok (.iload 5, 2) := by decide +kernel
theorem d_Md_complete_120 : decode prog_12_method_45_code 120 = .ok (.iaload, 1) := by decide +kernel
theorem d_Md_complete_121 : decode prog_12_method_45_code 121 = .ok (.imul, 1) := by decide +kernel
theorem d_Md_complete_122 : decode prog_12_method_45_code 122 = .ok (.iconst 4, 1) := by decide +kernel
theorem d_Md_complete_123 : decode prog_12_method_45_code 123 = .ok (.iadd, 1) := by decide +kernel
theorem d_Md_complete_124 : decode prog_12_method_45_code 124 = .ok (.iaload, 1) := by decide +kernel
theorem d_Md_complete_125 : decode prog_12_method_45_code 125 = .ok (.ior, 1) := by decide +kernel
theorem d_Md_complete_126 : decode prog_12_method_45_code 126 = .ok (.istore 4, 2) := by decide +kernel
theorem d_Md_complete_128 : decode prog_12_method_45_code 128 = .ok (.iinc 5 (1), 3) := by decide +kernel
theorem d_Md_complete_131 : decode prog_12_method_45_code 131 = .ok (.goto (-35), 3) := by decide +kernel
theorem d_Md_complete_134 : decode prog_12_method_45_code 134 = .ok (.bipush (16), 2) := by decide +kernel
theorem d_Md_complete_136 : decode prog_12_method_45_code 136 = .ok (.iload_n 1, 1) := by decide +kernel
theorem d_Md_complete_137 : decode prog_12_method_45_code 137 = .ok (.imul, 1) := by decide +kernel
theorem d_Md_complete_138 : decode prog_12_method_45_code 138 = .ok (.istore 5, 2) := by decide +kernel
theorem d_Md_complete_140 : decode prog_12_method_45_code 140 = .ok (.aload_n 0, 1) := by decide +kernel
theorem d_Md_complete_141 : decode prog_12_method_45_code 141 = .ok (.getfield 57, 3) := by decide +kernel
theorem d_Md_complete_144 : decode prog_12_method_45_code 144 = .ok (.iload 5, 2) := by decide +kernel
theorem d_Md_complete_146 : decode prog_12_method_45_code 146 = .ok (.iconst 1, 1) := by decide +kernel
theorem d_Md_complete_147 : decode prog_12_method_45_code 147 = .ok (.iadd, 1) := by decide +kernel
theorem d_Md_complete_148 : decode prog_12_method_45_code 148 = .ok (.iaload, 1) := by decide +kernel
theorem d_Md_complete_149 : decode prog_12_method_45_code 149 = .ok (.istore 6, 2) := by decide +kernel
theorem d_Md_complete_151 : decode prog_12_method_45_code 151 = .ok (.aload_n 0, 1) := by decide +kernel
theorem d_Md_complete_152 : decode prog_12_method_45_code 152 = .ok (.aload_n 0, 1) := by decide +kernel
theorem d_Md_complete_153 : decode prog_12_method_45_code 153 = .ok (.getfield 57, 3) := by decide +kernel
theorem d_Md_complete_156 : decode prog_12_method_45_code 156 = .ok (.iload 5, 2) := by decide +kernel
theorem d_Md_complete_158 : decode prog_12_method_45_code 158 = .ok (.iaload, 1) := by decide +kernel
theorem d_Md_complete_159 : decode prog_12_method_45_code 159 = .ok (.iload 6, 2) := by decide +kernel
theorem d_Md_complete_161 : decode prog_12_method_45_code 161 = .ok (.iload 6, 2) := by decide +kernel
theorem d_Md_complete_163 : decode prog_12_method_45_code 163 = .ok (.ifCond .le (19), 3) := by decide +kernel
theorem d_Md_complete_166 : decode prog_12_method_45_code 166 = .ok (.aload_n 0, 1) := by decide +kernel
theorem d_Md_complete_167 : decode prog_12_method_45_code 167 = .ok (.aload_n 0, 1) := by decide +kernel
theorem d_Md_complete_168 : decode prog_12_method_45_code 168 = .ok (.getfield 57, 3) := by decide +kernel
theorem d_Md_complete_171 : decode prog_12_method_45_code 171 = .ok (.iload 5, 2) := by decide +kernel
theorem d_Md_complete_173 : decode prog_12_method_45_code 173 = .ok (.iconst 2, 1) := by decide +kernel
theorem d_Md_complete_174 : decode prog_12_method_45_code 174 = .ok (.iadd, 1) := by decide +kernel
theorem d_Md_complete_175 : decode prog_12_method_45_code 175 = .ok (.iaload, 1) := by decide +kernel
theorem d_Md_complete_176 : decode prog_12_method_45_code 176 = .ok (.invokevirtual 246, 3) := by decide +kernel
theorem d_Md_complete_179 : decode prog_12_method_45_code 179 = .ok (.goto (4), 3) := by decide +kernel
theorem d_Md_complete_182 : decode prog_12_method_45_code 182 = .ok (.iconst 0, 1) := by decide +kernel
theorem d_Md_complete_183 : decode prog_12_method_45_code 183 = .ok (.iload 6, 2) := by decide +kernel
theorem d_Md_complete_185 : decode prog_12_method_45_code 185 = .ok (.iconst 1, 1) := by decide +kernel
theorem d_Md_complete_186 : decode prog_12_method_45_code 186 = .ok (.if_icmp .le (19), 3) := by decide +kernel
theorem d_Md_complete_189 : decode prog_12_method_45_code 189 = .ok (.aload_n 0, 1) := by decide +kernel
theorem d_Md_complete_190 : decode prog_12_method_45_code 190 = .ok (.aload_n 0, 1) := by decide +kernel
theorem d_Md_complete_191 : decode prog_12_method_45_code 191 = .ok (.getfield 57, 3) := by decide +kernel
theorem d_Md_complete_194 : decode prog_12_method_45_code 194 = .ok (.iload 5, 2) := by decide +kernel
theorem d_Md_complete_196 : decode prog_12_method_45_code 196 = .ok (.iconst 3, 1) := by decide +kernel
theorem d_Md_complete_197 : decode prog_12_method_45_code 197 = .ok (.iadd, 1) := by decide +kernel
theorem d_Md_complete_198 : decode prog_12_method_45_code 198 = .ok (.iaload, 1) := by decide +kernel
theorem d_Md_complete_199 : decode prog_12_method_45_code 199 = .ok (.invokevirtual 246, 3) := by decide +kernel
theorem d_Md_complete_202 : decode prog_12_method_45_code 202 = .ok (.goto (4), 3) := by decide +kernel
theorem d_Md_complete_205 : decode prog_12_method_45_code 205 = .ok (.iconst 0, 1) := by decide +kernel
theorem d_Md_complete_206 : decode prog_12_method_45_code 206 = .ok (.iload 4, 2) := by decide +kernel
theorem d_Md_complete_208 : decode prog_12_method_45_code 208 = .ok (.invokevirtual 249, 3) := by decide +kernel
theorem d_Md_complete_211 : decode prog_12_method_45_code 211 = .ok (.return_, 1) := by decide +kernel
theorem d_Md_compare_0 : decode prog_12_method_43_code 0 = .ok (.iconst 0, 1) := by decide +kernel
theorem d_Md_compare_1 : decode prog_12_method_43_code 1 = .ok (.istore_n 2, 1) := by decide +kernel
theorem d_Md_compare_2 : decode prog_12_method_43_code 2 = .ok (.iconst 0, 1) := by decide +kernel
theorem d_Md_compare_3 : decode prog_12_method_43_code 3 = .ok (.istore_n 3, 1) := by decide +kernel
theorem d_Md_compare_4 : decode prog_12_method_43_code 4 = .ok (.iload_n 3, 1) := by decide +kernel
theorem d_Md_compare_5 : decode prog_12_method_43_code 5 = .ok (.aload_n 0, 1) := by decide +kernel
theorem d_Md_compare_6 : decode prog_12_method_43_code 6 = .ok (.getfield 60, 3) := by decide +kernel
theorem d_Md_compare_9 : decode prog_12_method_43_code 9 = .ok (.iload_n 1, 1) := by decide +kernel
theorem d_Md_compare_10 : decode prog_12_method_43_code 10 = .ok (.iaload, 1) := by decide +kernel
theorem d_Md_compare_11 : decode prog_12_method_43_code 11 = .ok (.if_icmp .ge (140), 3) := by decide +kernel
theorem d_Md_compare_14 : decode prog_12_method_43_code 14 = .ok (.aload_n 0, 1) := by decide +kernel
theorem d_Md_compare_15 : decode prog_12_method_43_code 15 = .ok (.getfield 63, 3) := by decide +kernel
theorem d_Md_compare_18 : decode prog_12_method_43_code 18 = .ok (.bipush (48), 2) := by decide +kernel
theorem d_Md_compare_20 : decode prog_12_method_43_code 20 = .ok (.iload_n 1, 1) := by decide +kernel
theorem d_Md_compare_21 : decode prog_12_method_43_code 21 = .ok (.imul, 1) := by decide +kernel
theorem d_Md_compare_22 : decode prog_12_method_43_code 22 = .ok (.iload_n 3, 1) := by decide +kernel
theorem d_Md_compare_23 : decode prog_12_method_43_code 23 = .ok (.iadd, 1) := by decide +kernel
theorem d_Md_compare_24 : decode prog_12_method_43_code 24 = .ok (.iaload, 1) := by decide +kernel
theorem d_Md_compare_25 : decode prog_12_method_43_code 25 = .ok (.istore 4, 2) := by decide +kernel
theorem d_Md_compare_27 : decode prog_12_method_43_code 27 = .ok (.iload 4, 2) := by decide +kernel
theorem d_Md_compare_29 : decode prog_12_method_43_code 29 = .ok (.bipush (-10), 2) := by decide +kernel
theorem d_Md_compare_31 : decode prog_12_method_43_code 31 = .ok (.if_icmp .le (34), 3) := by decide +kernel
theorem d_Md_compare_34 : decode prog_12_method_43_code 34 = .ok (.aload_n 0, 1) := by decide +kernel
theorem d_Md_compare_35 : decode prog_12_method_43_code 35 = .ok (.getfield 81, 3) := by decide +kernel
theorem d_Md_compare_38 : decode prog_12_method_43_code 38 = .ok (.iload_n 2, 1) := by decide +kernel
theorem d_Md_compare_39 : decode prog_12_method_43_code 39 = .ok (.iload 4, 2) := by decide +kernel
theorem d_Md_compare_41 : decode prog_12_method_43_code 41 = .ok (.ifCond .lt (8), 3) := by decide +kernel
theorem d_Md_compare_44 : decode prog_12_method_43_code 44 = .ok (.iload 4, 2) := by decide +kernel
theorem d_Md_compare_46 : decode prog_12_method_43_code 46 = .ok (.goto (12), 3) := by decide +kernel
theorem d_Md_compare_49 : decode prog_12_method_43_code 49 = .ok (.aload_n 0, 1) := by decide +kernel
theorem d_Md_compare_50 : decode prog_12_method_43_code 50 = .ok (.getfield 78, 3) := by decide +kernel
theorem d_Md_compare_53 : decode prog_12_method_43_code 53 = .ok (.iconst (-1), 1) := by decide +kernel
theorem d_Md_compare_54 : decode prog_12_method_43_code 54 = .ok (.iload 4, 2) := by decide +kernel
theorem d_Md_compare_56 : decode prog_12_method_43_code 56 = .ok (.isub, 1) := by decide +kernel
theorem d_Md_compare_57 : decode prog_12_method_43_code 57 = .ok (.iaload, 1) := by decide +kernel
theorem d_Md_compare_58 : decode prog_12_method_43_code 58 = .ok (.iastore, 1) := by decide +kernel
theorem d_Md_compare_59 : decode prog_12_method_43_code 59 = .ok (.iinc 2 (1), 3) := by decide +kernel
theorem d_Md_compare_62 : decode prog_12_method_43_code 62 = .ok (.goto (83), 3) := by decide +kernel
theorem d_Md_compare_65 : decode prog_12_method_43_code 65 = .ok (.iinc 2 (-2), 3) := by decide +kernel
theorem d_Md_compare_68 : decode prog_12_method_43_code 68 = .ok (.iload 4, 2) := by decide +kernel
theorem d_Md_compare_70 : decode prog_12_method_43_code 70 = .ok (.bipush (-20), 2) := by decide +kernel
theorem d_Md_compare_72 : decode prog_12_method_43_code 72 = .ok (.if_icmp .le (49), 3) := by decide +kernel
theorem d_Md_compare_75 : decode prog_12_method_43_code 75 = .ok (.aload_n 0, 1) := by decide +kernel
theorem d_Md_compare_76 : decode prog_12_method_43_code 76 = .ok (.getfield 81, 3) := by decide +kernel
theorem d_Md_compare_79 : decode prog_12_method_43_code 79 = .ok (.iload_n 2, 1) := by decide +kernel
theorem d_Md_compare_80 : decode prog_12_method_43_code 80 = .ok (.iload 4, 2) := by decide +kernel
theorem d_Md_compare_82 : decode prog_12_method_43_code 82 = .ok (.aload_n 0, 1) := by decide +kernel
theorem d_Md_compare_83 : decode prog_12_method_43_code 83 = .ok (.getfield 81, 3) := by decide +kernel
theorem d_Md_compare_86 : decode prog_12_method_43_code 86 = .ok (.iload_n 2, 1) := by decide +kernel
theorem d_Md_compare_87 : decode prog_12_method_43_code 87 = .ok (.iaload, 1) := by decide +kernel
theorem d_Md_compare_88 : decode prog_12_method_43_code 88 = .ok (.i2l, 1) := by decide +kernel
theorem d_Md_compare_89 : decode prog_12_method_43_code 89 = .ok (.aload_n 0, 1) := by decide +kernel
theorem d_Md_compare_90 : decode prog_12_method_43_code 90 = .ok (.getfield 81, 3) := by decide +kernel
theorem d_Md_compare_93 : decode prog_12_method_43_code 93 = .ok (.iload_n 2, 1) := by decide +kernel
theorem d_Md_compare_94 : decode prog_12_method_43_code 94 = .ok (.iconst 1, 1) := by decide +kernel
theorem d_Md_compare_95 : decode prog_12_method_43_code 95 = .ok (.iadd, 1) := by decide +kernel
theorem d_Md_compare_96 : decode prog_12_method_43_code 96 = .ok (.iaload, 1) := by decide +kernel
theorem d_Md_compare_97 : decode prog_12_method_43_code 97 = .ok (.i2l, 1) := by decide +kernel
theorem d_Md_compare_98 : decode prog_12_method_43_code 98 = .ok (.invokestatic 213, 3) := by decide +kernel
theorem d_Md_compare_101 : decode prog_12_method_43_code 101 = .ok (.iastore, 1) := by decide +kernel
theorem d_Md_compare_102 : decode prog_12_method_43_code 102 = .ok (.aload_n 0, 1) := by decide +kernel
theorem d_Md_compare_103 : decode prog_12_method_43_code 103 = .ok (.getfield 81, 3) := by decide +kernel
theorem d_Md_compare_106 : decode prog_12_method_43_code 106 = .ok (.iload_n 2, 1) := by decide +kernel
theorem d_Md_compare_107 : decode prog_12_method_43_code 107 = .ok (.iaload, 1) := by decide +kernel
theorem d_Md_compare_108 : decode prog_12_method_43_code 108 = .ok (.ldc 208, 2) := by decide +kernel
theorem d_Md_compare_110 : decode prog_12_method_43_code 110 = .ok (.if_icmp .ne (5), 3) := by decide +kernel
theorem d_Md_compare_113 : decode prog_12_method_43_code 113 = .ok (.iconst 2, 1) := by decide +kernel
theorem d_Md_compare_114 : decode prog_12_method_43_code 114 = .ok (.ireturn, 1) := by decide +kernel
theorem d_Md_compare_115 : decode prog_12_method_43_code 115 = .ok (.iinc 2 (1), 3) := by decide +kernel
theorem d_Md_compare_118 : decode prog_12_method_43_code 118 = .ok (.goto (27), 3) := by decide +kernel
theorem d_Md_compare_121 : decode prog_12_method_43_code 121 = .ok (.iload 4, 2) := by decide +kernel
theorem d_Md_compare_123 : decode prog_12_method_43_code 123 = .ok (.aload_n 0, 1) := by decide +kernel
theorem d_Md_compare_124 : decode prog_12_method_43_code 124 = .ok (.getfield 81, 3) := by decide +kernel
theorem d_Md_compare_127 : decode prog_12_method_43_code 127 = .ok (.iload_n 2, 1) := by decide +kernel
theorem d_Md_compare_128 : decode prog_12_method_43_code 128 = .ok (.iaload, 1) := by decide +kernel
theorem d_Md_compare_129 : decode prog_12_method_43_code 129 = .ok (.aload_n 0, 1) := by decide +kernel
theorem d_Md_compare_130 : decode prog_12_method_43_code 130 = .ok (.getfield 81, 3) := by decide +kernel
theorem d_Md_compare_133 : decode prog_12_method_43_code 133 = .ok (.iload_n 2, 1) := by decide +kernel
theorem d_Md_compare_134 : decode prog_12_method_43_code 134 = .ok (.iconst 1, 1) := by decide +kernel
theorem d_Md_compare_135 : decode prog_12_method_43_code 135 = .ok (.iadd, 1) := by decide +kernel
theorem d_Md_compare_136 : decode prog_12_method_43_code 136 = .ok (.iaload, 1) := by decide +kernel
theorem d_Md_compare_137 : decode prog_12_method_43_code 137 = .ok (.invokestatic 217, 3) := by decide +kernel
theorem d_Md_compare_140 : decode prog_12_method_43_code 140 = .ok (.ifCond .ne (5), 3) := by decide +kernel
theorem d_Md_compare_143 : decode prog_12_method_43_code 143 = .ok (.iconst 0, 1) := by decide +kernel
theorem d_Md_compare_144 : decode prog_12_method_43_code 144 = .ok (.ireturn, 1) := by decide +kernel
theorem d_Md_compare_145 : decode prog_12_method_43_code 145 = .ok (.iinc 3 (1), 3) := by decide +kernel
theorem d_Md_compare_148 : decode prog_12_method_43_code 148 = .ok (.goto (-144), 3) := by decide +kernel
theorem d_Md_compare_151 : decode prog_12_method_43_code 151 = .ok (.iconst 1, 1) := by decide +kernel
theorem d_Md_compare_152 : decode prog_12_method_43_code 152 = .ok (.ireturn, 1) := by decide +kernel
theorem d_Md_joined_0 : decode prog_12_method_41_code 0 = .ok (.iload_n 0, 1) := by decide +kernel
theorem d_Md_joined_1 : decode prog_12_method_41_code 1 = .ok (.bipush (-14), 2) := by decide +kernel
theorem d_Md_joined_3 : decode prog_12_method_41_code 3 = .ok (.if_icmp .ne (12), 3) := by decide +kernel
theorem d_Md_joined_6 : decode prog_12_method_41_code 6 = .ok (.lload_n 3, 1) := by decide +kernel
theorem d_Md_joined_7 : decode prog_12_method_41_code 7 = .ok (.lconst 0, 1) := by decide +kernel
theorem d_Md_joined_8 : decode prog_12_method_41_code 8 = .ok (.lcmp, 1) := by decide +kernel
theorem d_Md_joined_9 : decode prog_12_method_41_code 9 = .ok (.ifCond .ne (6), 3) := by decide +kernel
theorem d_Md_joined_12 : decode prog_12_method_41_code 12 = .ok (.ldc 208, 2) := by decide +kernel
theorem d_Md_joined_14 : decode prog_12_method_41_code 14 = .ok (.ireturn, 1) := by decide +kernel
theorem d_Md_joined_15 : decode prog_12_method_41_code 15 = .ok (.iload_n 0, 1) := by decide +kernel
theorem d_Md_joined_16 : decode prog_12_method_41_code 16 = .ok (.bipush (-11), 2) := by decide +kernel
theorem d_Md_joined_18 : decode prog_12_method_41_code 18 = .ok (.if_icmp .ne (9), 3) := by decide +kernel
theorem d_Md_joined_21 : decode prog_12_method_41_code 21 = .ok (.lload_n 1, 1) := by decide +kernel
theorem d_Md_joined_22 : decode prog_12_method_41_code 22 = .ok (.lload_n 3, 1) := by decide +kernel
theorem d_Md_joined_23 : decode prog_12_method_41_code 23 = .ok (.ladd, 1) := by decide +kernel
theorem d_Md_joined_24 : decode prog_12_method_41_code 24 = .ok (.goto (30), 3) := by decide +kernel
theorem d_Md_joined_27 : decode prog_12_method_41_code 27 = .ok (.iload_n 0, 1) := by decide +kernel
theorem d_Md_joined_28 : decode prog_12_method_41_code 28 = .ok (.bipush (-12), 2) := by decide +kernel
theorem d_Md_joined_30 : decode prog_12_method_41_code 30 = .ok (.if_icmp .ne (9), 3) := by decide +kernel
theorem d_Md_joined_33 : decode prog_12_method_41_code 33 = .ok (.lload_n 1, 1) := by decide +kernel
theorem d_Md_joined_34 : decode prog_12_method_41_code 34 = .ok (.lload_n 3, 1) := by decide +kernel
theorem d_Md_joined_35 : decode prog_12_method_41_code 35 = .ok (.lsub, 1) := by decide +kernel
theorem d_Md_joined_36 : decode prog_12_method_41_code 36 = .ok (.goto (18), 3) := by decide +kernel
theorem d_Md_joined_39 : decode prog_12_method_41_code 39 = .ok (.iload_n 0, 1) := by decide +kernel
theorem d_Md_joined_40 : decode prog_12_method_41_code 40 = .ok (.bipush (-13), 2) := by decide +kernel
theorem d_Md_joined_42 : decode prog_12_method_41_code 42 = .ok (.if_icmp .ne (9), 3) := by decide +kernel
theorem d_Md_joined_45 : decode prog_12_method_41_code 45 = .ok (.lload_n 1, 1) := by decide +kernel
theorem d_Md_joined_46 : decode prog_12_method_41_code 46 = .ok (.lload_n 3, 1) := by decide +kernel
theorem d_Md_joined_47 : decode prog_12_method_41_code 47 = .ok (.lmul, 1) := by decide +kernel
theorem d_Md_joined_48 : decode prog_12_method_41_code 48 = .ok (.goto (6), 3) := by decide +kernel
theorem d_Md_joined_51 : decode prog_12_method_41_code 51 = .ok (.lload_n 1, 1) := by decide +kernel
theorem d_Md_joined_52 : decode prog_12_method_41_code 52 = .ok (.lload_n 3, 1) := by decide +kernel
theorem d_Md_joined_53 : decode prog_12_method_41_code 53 = .ok (.ldiv, 1) := by decide +kernel
theorem d_Md_joined_54 : decode prog_12_method_41_code 54 = .ok (.lstore 5, 2) := by decide +kernel
theorem d_Md_joined_56 : decode prog_12_method_41_code 56 = .ok (.lload 5, 2) := by decide +kernel
theorem d_Md_joined_58 : decode prog_12_method_41_code 58 = .ok (.ldc2_w 209, 3) := by decide +kernel
theorem d_Md_joined_61 : decode prog_12_method_41_code 61 = .ok (.lcmp, 1) := by decide +kernel
theorem d_Md_joined_62 : decode prog_12_method_41_code 62 = .ok (.ifCond .lt (12), 3) := by decide +kernel
theorem d_Md_joined_65 : decode prog_12_method_41_code 65 = .ok (.lload 5, 2) := by decide +kernel
theorem d_Md_joined_67 : decode prog_12_method_41_code 67 = .ok (.ldc2_w 211, 3) := by decide +kernel
theorem d_Md_joined_70 : decode prog_12_method_41_code 70 = .ok (.lcmp, 1) := by decide +kernel
theorem d_Md_joined_71 : decode prog_12_method_41_code 71 = .ok (.ifCond .le (8), 3) := by decide +kernel
theorem d_Md_joined_74 : decode prog_12_method_41_code 74 = .ok (.ldc 208, 2) := by decide +kernel
theorem d_Md_joined_76 : decode prog_12_method_41_code 76 = .ok (.goto (6), 3) := by decide +kernel
theorem d_Md_joined_79 : decode prog_12_method_41_code 79 = .ok (.lload 5, 2) := by decide +kernel
theorem d_Md_joined_81 : decode prog_12_method_41_code 81 = .ok (.l2i, 1) := by decide +kernel
theorem d_Md_joined_82 : decode prog_12_method_41_code 82 = .ok (.ireturn, 1) := by decide +kernel
theorem d_Md_compared_0 : decode prog_12_method_42_code 0 = .ok (.iload_n 0, 1) := by decide +kernel
theorem d_Md_compared_1 : decode prog_12_method_42_code 1 = .ok (.bipush (-21), 2) := by decide +kernel
theorem d_Md_compared_3 : decode prog_12_method_42_code 3 = .ok (.if_icmp .ne (16), 3) := by decide +kernel
theorem d_Md_compared_6 : decode prog_12_method_42_code 6 = .ok (.iload_n 1, 1) := by decide +kernel
theorem d_Md_compared_7 : decode prog_12_method_42_code 7 = .ok (.iload_n 2, 1) := by decide +kernel
theorem d_Md_compared_8 : decode prog_12_method_42_code 8 = .ok (.if_icmp .ge (7), 3) := by decide +kernel
theorem d_Md_compared_11 : decode prog_12_method_42_code 11 = .ok (.iconst 1, 1) := by decide +kernel
theorem d_Md_compared_12 : decode prog_12_method_42_code 12 = .ok (.goto (55), 3) := by decide +kernel
theorem d_Md_compared_15 : decode prog_12_method_42_code 15 = .ok (.iconst 0, 1) := by decide +kernel
theorem d_Md_compared_16 : decode prog_12_method_42_code 16 = .ok (.goto (51), 3) := by decide +kernel
theorem d_Md_compared_19 : decode prog_12_method_42_code 19 = .ok (.iload_n 0, 1) := by decide +kernel
theorem d_Md_compared_20 : decode prog_12_method_42_code 20 = .ok (.bipush (-22), 2) := by decide +kernel
theorem d_Md_compared_22 : decode prog_12_method_42_code 22 = .ok (.if_icmp .ne (16), 3) := by decide +kernel
theorem d_Md_compared_25 : decode prog_12_method_42_code 25 = .ok (.iload_n 1, 1) := by decide +kernel
theorem d_Md_compared_26 : decode prog_12_method_42_code 26 = .ok (.iload_n 2, 1) := by decide +kernel
theorem d_Md_compared_27 : decode prog_12_method_42_code 27 = .ok (.if_icmp .le (7), 3) := by decide +kernel
theorem d_Md_compared_30 : decode prog_12_method_42_code 30 = .ok (.iconst 1, 1) := by decide +kernel
theorem d_Md_compared_31 : decode prog_12_method_42_code 31 = .ok (.goto (36), 3) := by decide +kernel
theorem d_Md_compared_34 : decode prog_12_method_42_code 34 = .ok (.iconst 0, 1) := by decide +kernel
theorem d_Md_compared_35 : decode prog_12_method_42_code 35 = .ok (.goto (32), 3) := by decide +kernel
theorem d_Md_compared_38 : decode prog_12_method_42_code 38 = .ok (.iload_n 0, 1) := by decide +kernel
theorem d_Md_compared_39 : decode prog_12_method_42_code 39 = .ok (.bipush (-23), 2) := by decide +kernel
theorem d_Md_compared_41 : decode prog_12_method_42_code 41 = .ok (.if_icmp .ne (7), 3) := by decide +kernel
theorem d_Md_compared_44 : decode prog_12_method_42_code 44 = .ok (.iconst 1, 1) := by decide +kernel
theorem d_Md_compared_45 : decode prog_12_method_42_code 45 = .ok (.goto (4), 3) := by decide +kernel
theorem d_Md_compared_48 : decode prog_12_method_42_code 48 = .ok (.iconst 0, 1) := by decide +kernel
theorem d_Md_compared_49 : decode prog_12_method_42_code 49 = .ok (.iload_n 1, 1) := by decide +kernel
theorem d_Md_compared_50 : decode prog_12_method_42_code 50 = .ok (.iload_n 2, 1) := by decide +kernel
theorem d_Md_compared_51 : decode prog_12_method_42_code 51 = .ok (.if_icmp .ne (7), 3) := by decide +kernel
theorem d_Md_compared_54 : decode prog_12_method_42_code 54 = .ok (.iconst 1, 1) := by decide +kernel
theorem d_Md_compared_55 : decode prog_12_method_42_code 55 = .ok (.goto (4), 3) := by decide +kernel
theorem d_Md_compared_58 : decode prog_12_method_42_code 58 = .ok (.iconst 0, 1) := by decide +kernel
theorem d_Md_compared_59 : decode prog_12_method_42_code 59 = .ok (.if_icmp .ne (7), 3) := by decide +kernel
theorem d_Md_compared_62 : decode prog_12_method_42_code 62 = .ok (.iconst 1, 1) := by decide +kernel
theorem d_Md_compared_63 : decode prog_12_method_42_code 63 = .ok (.goto (4), 3) := by decide +kernel
theorem d_Md_compared_66 : decode prog_12_method_42_code 66 = .ok (.iconst 0, 1) := by decide +kernel
theorem d_Md_compared_67 : decode prog_12_method_42_code 67 = .ok (.ireturn, 1) := by decide +kernel
theorem d_Md_decide_0 : decode prog_12_method_49_code 0 = .ok (.iconst 0, 1) := by decide +kernel
theorem d_Md_decide_1 : decode prog_12_method_49_code 1 = .ok (.istore_n 1, 1) := by decide +kernel
theorem d_Md_decide_2 : decode prog_12_method_49_code 2 = .ok (.aload_n 0, 1) := by decide +kernel
theorem d_Md_decide_3 : decode prog_12_method_49_code 3 = .ok (.iconst 0, 1) := by decide +kernel
theorem d_Md_decide_4 : decode prog_12_method_49_code 4 = .ok (.putfield 264, 3) := by decide +kernel
theorem d_Md_decide_7 : decode prog_12_method_49_code 7 = .ok (.iconst 0, 1) := by decide +kernel
theorem d_Md_decide_8 : decode prog_12_method_49_code 8 = .ok (.istore_n 2, 1) := by decide +kernel
theorem d_Md_decide_9 : decode prog_12_method_49_code 9 = .ok (.iconst 0, 1) := by decide +kernel
theorem d_Md_decide_10 : decode prog_12_method_49_code 10 = .ok (.istore_n 3, 1) := by decide +kernel
theorem d_Md_decide_11 : decode prog_12_method_49_code 11 = .ok (.iconst 0, 1) := by decide +kernel
theorem d_Md_decide_12 : decode prog_12_method_49_code 12 = .ok (.istore 4, 2) := by decide +kernel
theorem d_Md_decide_14 : decode prog_12_method_49_code 14 = .ok (.iload 4, 2) := by decide +kernel
theorem d_Md_decide_16 : decode prog_12_method_49_code 16 = .ok (.aload_n 0, 1) := by decide +kernel
theorem d_Md_decide_17 : decode prog_12_method_49_code 17 = .ok (.getfield 252, 3) := by decide +kernel
theorem d_Md_decide_20 : decode prog_12_method_49_code 20 = .ok (.if_icmp .ge (152), 3) := by decide +kernel
theorem d_Md_decide_23 : decode prog_12_method_49_code 23 = .ok (.aload_n 0, 1) := by decide +kernel
theorem d_Md_decide_24 : decode prog_12_method_49_code 24 = .ok (.getfield 45, 3) := by decide +kernel
theorem d_Md_decide_27 : decode prog_12_method_49_code 27 = .ok (.iload 4, 2) := by decide +kernel
theorem d_Md_decide_29 : decode prog_12_method_49_code 29 = .ok (.iaload, 1) := by decide +kernel
theorem d_Md_decide_30 : decode prog_12_method_49_code 30 = .ok (.ifCond .le (136), 3) := by decide +kernel
theorem d_Md_decide_33 : decode prog_12_method_49_code 33 = .ok (.aload_n 0, 1) := by decide +kernel
theorem d_Md_decide_34 : decode prog_12_method_49_code 34 = .ok (.getfield 45, 3) := by decide +kernel
theorem d_Md_decide_37 : decode prog_12_method_49_code 37 = .ok (.iload 4, 2) := by decide +kernel
theorem d_Md_decide_39 : decode prog_12_method_49_code 39 = .ok (.iaload, 1) := by decide +kernel
theorem d_Md_decide_40 : decode prog_12_method_49_code 40 = .ok (.iconst 4, 1) := by decide +kernel
theorem d_Md_decide_41 : decode prog_12_method_49_code 41 = .ok (.if_icmp .ge (125), 3) := by decide +kernel
theorem d_Md_decide_44 : decode prog_12_method_49_code 44 = .ok (.aload_n 0, 1) := by decide +kernel
theorem d_Md_decide_45 : decode prog_12_method_49_code 45 = .ok (.iload 4, 2) := by decide +kernel
theorem d_Md_decide_47 : decode prog_12_method_49_code 47 = .ok (.iconst 0, 1) := by decide +kernel
theorem d_Md_decide_48 : decode prog_12_method_49_code 48 = .ok (.invokevirtual 261, 3) := by decide +kernel
theorem d_Md_decide_51 : decode prog_12_method_49_code 51 = .ok (.iload_n 1, 1) := by decide +kernel
theorem d_Md_decide_52 : decode prog_12_method_49_code 52 = .ok (.ifCond .ne (10), 3) := by decide +kernel
theorem d_Md_decide_55 : decode prog_12_method_49_code 55 = .ok (.aload_n 0, 1) := by decide +kernel
theorem d_Md_decide_56 : decode prog_12_method_49_code 56 = .ok (.getfield 227, 3) := by decide +kernel
theorem d_Md_decide_59 : decode prog_12_method_49_code 59 = .ok (.ifCond .eq (7), 3) := by decide +kernel
theorem d_Md_decide_62 : decode prog_12_method_49_code 62 = .ok (.iconst 1, 1) := by decide +kernel
theorem d_Md_decide_63 : decode prog_12_method_49_code 63 = .ok (.goto (4), 3) := by decide +kernel
theorem d_Md_decide_66 : decode prog_12_method_49_code 66 = .ok (.iconst 0, 1) := by decide +kernel
theorem d_Md_decide_67 : decode prog_12_method_49_code 67 = .ok (.istore_n 1, 1) := by decide +kernel
theorem d_Md_decide_68 : decode prog_12_method_49_code 68 = .ok (.aload_n 0, 1) := by decide +kernel
theorem d_Md_decide_69 : decode prog_12_method_49_code 69 = .ok (.getfield 45, 3) := by decide +kernel
theorem d_Md_decide_72 : decode prog_12_method_49_code 72 = .ok (.iload 4, 2) := by decide +kernel
theorem d_Md_decide_74 : decode prog_12_method_49_code 74 = .ok (.iaload, 1) := by decide +kernel
theorem d_Md_decide_75 : decode prog_12_method_49_code 75 = .ok (.iconst 1, 1) := by decide +kernel
theorem d_Md_decide_76 : decode prog_12_method_49_code 76 = .ok (.if_icmp .le (90), 3) := by decide +kernel
theorem d_Md_decide_79 : decode prog_12_method_49_code 79 = .ok (.aload_n 0, 1) := by decide +kernel
theorem d_Md_decide_80 : decode prog_12_method_49_code 80 = .ok (.getfield 45, 3) := by decide +kernel
theorem d_Md_decide_83 : decode prog_12_method_49_code 83 = .ok (.iload 4, 2) := by decide +kernel
theorem d_Md_decide_85 : decode prog_12_method_49_code 85 = .ok (.iaload, 1) := by decide +kernel
theorem d_Md_decide_86 : decode prog_12_method_49_code 86 = .ok (.iconst 2, 1) := by decide +kernel
theorem d_Md_decide_87 : decode prog_12_method_49_code 87 = .ok (.if_icmp .ne (10), 3) := by decide +kernel
theorem d_Md_decide_90 : decode prog_12_method_49_code 90 = .ok (.aload_n 0, 1) := by decide +kernel
theorem d_Md_decide_91 : decode prog_12_method_49_code 91 = .ok (.getfield 224, 3) := by decide +kernel
theorem d_Md_decide_94 : decode prog_12_method_49_code 94 = .ok (.goto (22), 3) := by decide +kernel
theorem d_Md_decide_97 : decode prog_12_method_49_code 97 = .ok (.aload_n 0, 1) := by decide +kernel
theorem d_Md_decide_98 : decode prog_12_method_49_code 98 = .ok (.getfield 221, 3) := by decide +kernel
theorem d_Md_decide_101 : decode prog_12_method_49_code 101 = .ok (.ifCond .eq (14), 3) := by decide +kernel
theorem d_Md_decide_104 : decode prog_12_method_49_code 104 = .ok (.aload_n 0, 1) := by decide +kernel
theorem d_Md_decide_105 : decode prog_12_method_49_code 105 = .ok (.getfield 230, 3) := by decide +kernel
theorem d_Md_decide_108 : decode prog_12_method_49_code 108 = .ok (.ifCond .eq (7), 3) := by decide +kernel
theorem d_Md_decide_111 : decode prog_12_method_49_code 111 = .ok (.iconst 1, 1) := by decide +kernel
theorem d_Md_decide_112 : decode prog_12_method_49_code 112 = .ok (.goto (4), 3) := by decide +kernel
theorem d_Md_decide_115 : decode prog_12_method_49_code 115 = .ok (.iconst 0, 1) := by decide +kernel
theorem d_Md_decide_116 : decode prog_12_method_49_code 116 = .ok (.istore 5, 2) := by decide +kernel
theorem d_Md_decide_118 : decode prog_12_method_49_code 118 = .ok (.aload_n 0, 1) := by decide +kernel
theorem d_Md_decide_119 : decode prog_12_method_49_code 119 = .ok (.iload 5, 2) := by decide +kernel
theorem d_Md_decide_121 : decode prog_12_method_49_code 121 = .ok (.ifCond .ne (20), 3) := by decide +kernel
theorem d_Md_decide_124 : decode prog_12_method_49_code 124 = .ok (.iload_n 2, 1) := by decide +kernel
theorem d_Md_decide_125 : decode prog_12_method_49_code 125 = .ok (.bipush (31), 2) := by decide +kernel
theorem d_Md_decide_127 : decode prog_12_method_49_code 127 = .ok (.if_icmp .ge (14), 3) := by decide +kernel
theorem d_Md_decide_130 : decode prog_12_method_49_code 130 = .ok (.aload_n 0, 1) := by decide +kernel
theorem d_Md_decide_131 : decode prog_12_method_49_code 131 = .ok (.getfield 264, 3) := by decide +kernel
theorem d_Md_decide_134 : decode prog_12_method_49_code 134 = .ok (.iconst 1, 1) := by decide +kernel
theorem d_Md_decide_135 : decode prog_12_method_49_code 135 = .ok (.iload_n 2, 1) := by decide +kernel
theorem d_Md_decide_136 : decode prog_12_method_49_code 136 = .ok (.ishl, 1) := by decide +kernel
theorem d_Md_decide_137 : decode prog_12_method_49_code 137 = .ok (.ior, 1) := by decide +kernel
theorem d_Md_decide_138 : decode prog_12_method_49_code 138 = .ok (.goto (7), 3) := by decide +kernel
theorem d_Md_decide_141 : decode prog_12_method_49_code 141 = .ok (.aload_n 0, 1) := by decide +kernel
theorem d_Md_decide_142 : decode prog_12_method_49_code 142 = .ok (.getfield 264, 3) := by decide +kernel
theorem d_Md_decide_145 : decode prog_12_method_49_code 145 = .ok (.putfield 264, 3) := by decide +kernel
theorem d_Md_decide_148 : decode prog_12_method_49_code 148 = .ok (.iload_n 3, 1) := by decide +kernel
theorem d_Md_decide_149 : decode prog_12_method_49_code 149 = .ok (.ifCond .ne (8), 3) := by decide +kernel
theorem d_Md_decide_152 : decode prog_12_method_49_code 152 = .ok (.iload 5, 2) := by decide +kernel
theorem d_Md_decide_154 : decode prog_12_method_49_code 154 = .ok (.ifCond .ne (7), 3) := by decide +kernel
theorem d_Md_decide_157 : decode prog_12_method_49_code 157 = .ok (.iconst 1, 1) := by decide +kernel
theorem d_Md_decide_158 : decode prog_12_method_49_code 158 = .ok (.goto (4), 3) := by decide +kernel
theorem d_Md_decide_161 : decode prog_12_method_49_code 161 = .ok (.iconst 0, 1) := by decide +kernel
theorem d_Md_decide_162 : decode prog_12_method_49_code 162 = .ok (.istore_n 3, 1) := by decide +kernel
theorem d_Md_decide_163 : decode prog_12_method_49_code 163 = .ok (.iinc 2 (1), 3) := by decide +kernel
theorem d_Md_decide_166 : decode prog_12_method_49_code 166 = .ok (.iinc 4 (1), 3) := by decide +kernel
theorem d_Md_decide_169 : decode prog_12_method_49_code 169 = .ok (.goto (-155), 3) := by decide +kernel
theorem d_Md_decide_172 : decode prog_12_method_49_code 172 = .ok (.iconst 0, 1) := by decide +kernel
theorem d_Md_decide_173 : decode prog_12_method_49_code 173 = .ok (.istore 4, 2) := by decide +kernel
theorem d_Md_decide_175 : decode prog_12_method_49_code 175 = .ok (.bipush (-6), 2) := by decide +kernel
theorem d_Md_decide_177 : decode prog_12_method_49_code 177 = .ok (.istore 5, 2) := by decide +kernel
theorem d_Md_decide_179 : decode prog_12_method_49_code 179 = .ok (.iconst 0, 1) := by decide +kernel
theorem d_Md_decide_180 : decode prog_12_method_49_code 180 = .ok (.istore 6, 2) := by decide +kernel
theorem d_Md_decide_182 : decode prog_12_method_49_code 182 = .ok (.iload 6, 2) := by decide +kernel
theorem d_Md_decide_184 : decode prog_12_method_49_code 184 = .ok (.aload_n 0, 1) := by decide +kernel
theorem d_Md_decide_185 : decode prog_12_method_49_code 185 = .ok (.getfield 252, 3) := by decide +kernel
theorem d_Md_decide_188 : decode prog_12_method_49_code 188 = .ok (.if_icmp .ge (78), 3) := by decide +kernel
theorem d_Md_decide_191 : decode prog_12_method_49_code 191 = .ok (.iload 5, 2) := by decide +kernel
theorem d_Md_decide_193 : decode prog_12_method_49_code 193 = .ok (.bipush (-6), 2) := by decide +kernel
theorem d_Md_decide_195 : decode prog_12_method_49_code 195 = .ok (.if_icmp .ne (71), 3) := by decide +kernel
theorem d_Md_decide_198 : decode prog_12_method_49_code 198 = .ok (.iload_n 1, 1) := by decide +kernel
theorem d_Md_decide_199 : decode prog_12_method_49_code 199 = .ok (.ifCond .ne (67), 3) := by decide +kernel
theorem d_Md_decide_202 : decode prog_12_method_49_code 202 = .ok (.aload_n 0, 1) := by decide +kernel
theorem d_Md_decide_203 : decode prog_12_method_49_code 203 = .ok (.getfield 45, 3) := by decide +kernel
theorem d_Md_decide_206 : decode prog_12_method_49_code 206 = .ok (.iload 6, 2) := by decide +kernel
theorem d_Md_decide_208 : decode prog_12_method_49_code 208 = .ok (.iaload, 1) := by decide +kernel
theorem d_Md_decide_209 : decode prog_12_method_49_code 209 = .ok (.iconst 3, 1) := by decide +kernel
theorem d_Md_decide_210 : decode prog_12_method_49_code 210 = .ok (.if_icmp .le (50), 3) := by decide +kernel
theorem d_Md_decide_213 : decode prog_12_method_49_code 213 = .ok (.aload_n 0, 1) := by decide +kernel
theorem d_Md_decide_214 : decode prog_12_method_49_code 214 = .ok (.iload 6, 2) := by decide +kernel
theorem d_Md_decide_216 : decode prog_12_method_49_code 216 = .ok (.iconst 0, 1) := by decide +kernel
theorem d_Md_decide_217 : decode prog_12_method_49_code 217 = .ok (.invokevirtual 261, 3) := by decide +kernel
theorem d_Md_decide_220 : decode prog_12_method_49_code 220 = .ok (.aload_n 0, 1) := by decide +kernel
theorem d_Md_decide_221 : decode prog_12_method_49_code 221 = .ok (.getfield 227, 3) := by decide +kernel
theorem d_Md_decide_224 : decode prog_12_method_49_code 224 = .ok (.istore_n 1, 1) := by decide +kernel
theorem d_Md_decide_225 : decode prog_12_method_49_code 225 = .ok (.aload_n 0, 1) := by decide +kernel
theorem d_Md_decide_226 : decode prog_12_method_49_code 226 = .ok (.getfield 224, 3) := by decide +kernel
theorem d_Md_decide_229 : decode prog_12_method_49_code 229 = .ok (.ifCond .eq (24), 3) := by decide +kernel
theorem d_Md_decide_232 : decode prog_12_method_49_code 232 = .ok (.aload_n 0, 1) := by decide +kernel
theorem d_Md_decide_233 : decode prog_12_method_49_code 233 = .ok (.getfield 45, 3) := by decide +kernel
theorem d_Md_decide_236 : decode prog_12_method_49_code 236 = .ok (.iload 6, 2) := by decide +kernel
theorem d_Md_decide_238 : decode prog_12_method_49_code 238 = .ok (.iaload, 1) := by decide +kernel
theorem d_Md_decide_239 : decode prog_12_method_49_code 239 = .ok (.iconst 4, 1) := by decide +kernel
theorem d_Md_decide_240 : decode prog_12_method_49_code 240 = .ok (.if_icmp .ne (8), 3) := by decide +kernel
theorem d_Md_decide_243 : decode prog_12_method_49_code 243 = .ok (.iload 4, 2) := by decide +kernel
theorem d_Md_decide_245 : decode prog_12_method_49_code 245 = .ok (.goto (10), 3) := by decide +kernel
theorem d_Md_decide_248 : decode prog_12_method_49_code 248 = .ok (.bipush (-5), 2) := by decide +kernel
theorem d_Md_decide_250 : decode prog_12_method_49_code 250 = .ok (.goto (5), 3) := by decide +kernel
theorem d_Md_decide_253 : decode prog_12_method_49_code 253 = .ok (.bipush (-6), 2) := by decide +kernel
theorem d_Md_decide_255 : decode prog_12_method_49_code 255 = .ok (.istore 5, 2) := by decide +kernel
theorem d_Md_decide_257 : decode prog_12_method_49_code 257 = .ok (.iinc 4 (1), 3) := by decide +kernel
theorem d_Md_decide_260 : decode prog_12_method_49_code 260 = .ok (.iinc 6 (1), 3) := by decide +kernel
theorem d_Md_decide_263 : decode prog_12_method_49_code 263 = .ok (.goto (-81), 3) := by decide +kernel
theorem d_Md_decide_266 : decode prog_12_method_49_code 266 = .ok (.iload_n 1, 1) := by decide +kernel
theorem d_Md_decide_267 : decode prog_12_method_49_code 267 = .ok (.ifCond .eq (8), 3) := by decide +kernel
theorem d_Md_decide_270 : decode prog_12_method_49_code 270 = .ok (.bipush (-3), 2) := by decide +kernel
theorem d_Md_decide_272 : decode prog_12_method_49_code 272 = .ok (.goto (14), 3) := by decide +kernel
theorem d_Md_decide_275 : decode prog_12_method_49_code 275 = .ok (.iload_n 3, 1) := by decide +kernel
theorem d_Md_decide_276 : decode prog_12_method_49_code 276 = .ok (.ifCond .eq (8), 3) := by decide +kernel
theorem d_Md_decide_279 : decode prog_12_method_49_code 279 = .ok (.bipush (-4), 2) := by decide +kernel
theorem d_Md_decide_281 : decode prog_12_method_49_code 281 = .ok (.goto (5), 3) := by decide +kernel
theorem d_Md_decide_284 : decode prog_12_method_49_code 284 = .ok (.iload 5, 2) := by decide +kernel
theorem d_Md_decide_286 : decode prog_12_method_49_code 286 = .ok (.istore 6, 2) := by decide +kernel
theorem d_Md_decide_288 : decode prog_12_method_49_code 288 = .ok (.aload_n 0, 1) := by decide +kernel
theorem d_Md_decide_289 : decode prog_12_method_49_code 289 = .ok (.iload 6, 2) := by decide +kernel
theorem d_Md_decide_291 : decode prog_12_method_49_code 291 = .ok (.bipush (-4), 2) := by decide +kernel
theorem d_Md_decide_293 : decode prog_12_method_49_code 293 = .ok (.if_icmp .ne (10), 3) := by decide +kernel
theorem d_Md_decide_296 : decode prog_12_method_49_code 296 = .ok (.aload_n 0, 1) := by decide +kernel
theorem d_Md_decide_297 : decode prog_12_method_49_code 297 = .ok (.getfield 264, 3) := by decide +kernel
theorem d_Md_decide_300 : decode prog_12_method_49_code 300 = .ok (.goto (4), 3) := by decide +kernel
theorem d_Md_decide_303 : decode prog_12_method_49_code 303 = .ok (.iconst 0, 1) := by decide +kernel
theorem d_Md_decide_304 : decode prog_12_method_49_code 304 = .ok (.putfield 264, 3) := by decide +kernel
theorem d_Md_decide_307 : decode prog_12_method_49_code 307 = .ok (.iload 6, 2) := by decide +kernel
theorem d_Md_decide_309 : decode prog_12_method_49_code 309 = .ok (.ireturn, 1) := by decide +kernel
theorem d_Md_latest_0 : decode prog_12_method_51_code 0 = .ok (.aload_n 0, 1) := by decide +kernel
theorem d_Md_latest_1 : decode prog_12_method_51_code 1 = .ok (.iconst 0, 1) := by decide +kernel
theorem d_Md_latest_2 : decode prog_12_method_51_code 2 = .ok (.putfield 84, 3) := by decide +kernel
theorem d_Md_latest_5 : decode prog_12_method_51_code 5 = .ok (.iload_n 1, 1) := by decide +kernel
theorem d_Md_latest_6 : decode prog_12_method_51_code 6 = .ok (.ifCond .ne (10), 3) := by decide +kernel
theorem d_Md_latest_9 : decode prog_12_method_51_code 9 = .ok (.aload_n 0, 1) := by decide +kernel
theorem d_Md_latest_10 : decode prog_12_method_51_code 10 = .ok (.getfield 271, 3) := by decide +kernel
theorem d_Md_latest_13 : decode prog_12_method_51_code 13 = .ok (.goto (40), 3) := by decide +kernel
theorem d_Md_latest_16 : decode prog_12_method_51_code 16 = .ok (.iload_n 1, 1) := by decide +kernel
theorem d_Md_latest_17 : decode prog_12_method_51_code 17 = .ok (.iconst 1, 1) := by decide +kernel
theorem d_Md_latest_18 : decode prog_12_method_51_code 18 = .ok (.if_icmp .ne (10), 3) := by decide +kernel
theorem d_Md_latest_21 : decode prog_12_method_51_code 21 = .ok (.aload_n 0, 1) := by decide +kernel
theorem d_Md_latest_22 : decode prog_12_method_51_code 22 = .ok (.getfield 202, 3) := by decide +kernel
theorem d_Md_latest_25 : decode prog_12_method_51_code 25 = .ok (.goto (28), 3) := by decide +kernel
theorem d_Md_latest_28 : decode prog_12_method_51_code 28 = .ok (.iload_n 1, 1) := by decide +kernel
theorem d_Md_latest_29 : decode prog_12_method_51_code 29 = .ok (.iconst 2, 1) := by decide +kernel
theorem d_Md_latest_30 : decode prog_12_method_51_code 30 = .ok (.if_icmp .ne (10), 3) := by decide +kernel
theorem d_Md_latest_33 : decode prog_12_method_51_code 33 = .ok (.aload_n 0, 1) := by decide +kernel
theorem d_Md_latest_34 : decode prog_12_method_51_code 34 = .ok (.getfield 258, 3) := by decide +kernel
theorem d_Md_latest_37 : decode prog_12_method_51_code 37 = .ok (.goto (16), 3) := by decide +kernel
theorem d_Md_latest_40 : decode prog_12_method_51_code 40 = .ok (.iload_n 1, 1) := by decide +kernel
theorem d_Md_latest_41 : decode prog_12_method_51_code 41 = .ok (.iconst 3, 1) := by decide +kernel
theorem d_Md_latest_42 : decode prog_12_method_51_code 42 = .ok (.if_icmp .ne (10), 3) := by decide +kernel
theorem d_Md_latest_45 : decode prog_12_method_51_code 45 = .ok (.aload_n 0, 1) := by decide +kernel
theorem d_Md_latest_46 : decode prog_12_method_51_code 46 = .ok (.getfield 264, 3) := by decide +kernel
theorem d_Md_latest_49 : decode prog_12_method_51_code 49 = .ok (.goto (4), 3) := by decide +kernel
theorem d_Md_latest_52 : decode prog_12_method_51_code 52 = .ok (.iconst 0, 1) := by decide +kernel
theorem d_Md_latest_53 : decode prog_12_method_51_code 53 = .ok (.ireturn, 1) := by decide +kernel
theorem d_Md_fact_0 : decode prog_12_method_53_code 0 = .ok (.aload_n 0, 1) := by decide +kernel
theorem d_Md_fact_1 : decode prog_12_method_53_code 1 = .ok (.iload_n 1, 1) := by decide +kernel
theorem d_Md_fact_2 : decode prog_12_method_53_code 2 = .ok (.ifCond .lt (20), 3) := by decide +kernel
theorem d_Md_fact_5 : decode prog_12_method_53_code 5 = .ok (.iload_n 1, 1) := by decide +kernel
theorem d_Md_fact_6 : decode prog_12_method_53_code 6 = .ok (.aload_n 0, 1) := by decide +kernel
theorem d_Md_fact_7 : decode prog_12_method_53_code 7 = .ok (.getfield 202, 3) := by decide +kernel
theorem d_Md_fact_10 : decode prog_12_method_53_code 10 = .ok (.if_icmp .ge (12), 3) := by decide +kernel
theorem d_Md_fact_13 : decode prog_12_method_53_code 13 = .ok (.iload_n 2, 1) := by decide +kernel
theorem d_Md_fact_14 : decode prog_12_method_53_code 14 = .ok (.ifCond .lt (8), 3) := by decide +kernel
theorem d_Md_fact_17 : decode prog_12_method_53_code 17 = .ok (.iload_n 2, 1) := by decide +kernel
theorem d_Md_fact_18 : decode prog_12_method_53_code 18 = .ok (.iconst 4, 1) := by decide +kernel
theorem d_Md_fact_19 : decode prog_12_method_53_code 19 = .ok (.if_icmp .le (7), 3) := by decide +kernel
theorem d_Md_fact_22 : decode prog_12_method_53_code 22 = .ok (.iconst 1, 1) := by decide +kernel
theorem d_Md_fact_23 : decode prog_12_method_53_code 23 = .ok (.goto (4), 3) := by decide +kernel
theorem d_Md_fact_26 : decode prog_12_method_53_code 26 = .ok (.iconst 0, 1) := by decide +kernel
theorem d_Md_fact_27 : decode prog_12_method_53_code 27 = .ok (.putfield 84, 3) := by decide +kernel
theorem d_Md_fact_30 : decode prog_12_method_53_code 30 = .ok (.iconst 0, 1) := by decide +kernel
theorem d_Md_fact_31 : decode prog_12_method_53_code 31 = .ok (.istore_n 3, 1) := by decide +kernel
theorem d_Md_fact_32 : decode prog_12_method_53_code 32 = .ok (.iload_n 3, 1) := by decide +kernel
theorem d_Md_fact_33 : decode prog_12_method_53_code 33 = .ok (.aload_n 0, 1) := by decide +kernel
theorem d_Md_fact_34 : decode prog_12_method_53_code 34 = .ok (.getfield 202, 3) := by decide +kernel
theorem d_Md_fact_37 : decode prog_12_method_53_code 37 = .ok (.if_icmp .ge (74), 3) := by decide +kernel
theorem d_Md_fact_40 : decode prog_12_method_53_code 40 = .ok (.aload_n 0, 1) := by decide +kernel
theorem d_Md_fact_41 : decode prog_12_method_53_code 41 = .ok (.getfield 84, 3) := by decide +kernel
theorem d_Md_fact_44 : decode prog_12_method_53_code 44 = .ok (.ifCond .ne (67), 3) := by decide +kernel
theorem d_Md_fact_47 : decode prog_12_method_53_code 47 = .ok (.iconst 0, 1) := by decide +kernel
theorem d_Md_fact_48 : decode prog_12_method_53_code 48 = .ok (.istore 4, 2) := by decide +kernel
theorem d_Md_fact_50 : decode prog_12_method_53_code 50 = .ok (.iconst 0, 1) := by decide +kernel
theorem d_Md_fact_51 : decode prog_12_method_53_code 51 = .ok (.istore 5, 2) := by decide +kernel
theorem d_Md_fact_53 : decode prog_12_method_53_code 53 = .ok (.iload 5, 2) := by decide +kernel
theorem d_Md_fact_55 : decode prog_12_method_53_code 55 = .ok (.aload_n 0, 1) := by decide +kernel
theorem d_Md_fact_56 : decode prog_12_method_53_code 56 = .ok (.getfield 202, 3) := by decide +kernel
theorem d_Md_fact_59 : decode prog_12_method_53_code 59 = .ok (.if_icmp .ge (29), 3) := by decide +kernel
theorem d_Md_fact_62 : decode prog_12_method_53_code 62 = .ok (.iload 4, 2) := by decide +kernel
theorem d_Md_fact_64 : decode prog_12_method_53_code 64 = .ok (.aload_n 0, 1) := by decide +kernel
theorem d_Md_fact_65 : decode prog_12_method_53_code 65 = .ok (.iload 5, 2) := by decide +kernel
theorem d_Md_fact_67 : decode prog_12_method_53_code 67 = .ok (.iload_n 3, 1) := by decide +kernel
theorem d_Md_fact_68 : decode prog_12_method_53_code 68 = .ok (.invokevirtual 283, 3) := by decide +kernel
theorem d_Md_fact_71 : decode prog_12_method_53_code 71 = .ok (.ifCond .eq (7), 3) := by decide +kernel
theorem d_Md_fact_74 : decode prog_12_method_53_code 74 = .ok (.iconst 1, 1) := by decide +kernel
theorem d_Md_fact_75 : decode prog_12_method_53_code 75 = .ok (.goto (4), 3) := by decide +kernel
theorem d_Md_fact_78 : decode prog_12_method_53_code 78 = .ok (.iconst 0, 1) := by decide +kernel
theorem d_Md_fact_79 : decode prog_12_method_53_code 79 = .ok (.iadd, 1) := by decide +kernel
theorem d_Md_fact_80 : decode prog_12_method_53_code 80 = .ok (.istore 4, 2) := by decide +kernel
theorem d_Md_fact_82 : decode prog_12_method_53_code 82 = .ok (.iinc 5 (1), 3) := by decide +kernel
theorem d_Md_fact_85 : decode prog_12_method_53_code 85 = .ok (.goto (-32), 3) := by decide +kernel
theorem d_Md_fact_88 : decode prog_12_method_53_code 88 = .ok (.iload 4, 2) := by decide +kernel
theorem d_Md_fact_90 : decode prog_12_method_53_code 90 = .ok (.iload_n 1, 1) := by decide +kernel
theorem d_Md_fact_91 : decode prog_12_method_53_code 91 = .ok (.if_icmp .ne (14), 3) := by decide +kernel
theorem d_Md_fact_94 : decode prog_12_method_53_code 94 = .ok (.aload_n 0, 1) := by decide +kernel
theorem d_Md_fact_95 : decode prog_12_method_53_code 95 = .ok (.getfield 69, 3) := by decide +kernel
theorem d_Md_fact_98 : decode prog_12_method_53_code 98 = .ok (.iconst 5, 1) := by decide +kernel
theorem d_Md_fact_99 : decode prog_12_method_53_code 99 = .ok (.iload_n 3, 1) := by decide +kernel
theorem d_Md_fact_100 : decode prog_12_method_53_code 100 = .ok (.imul, 1) := by decide +kernel
theorem d_Md_fact_101 : decode prog_12_method_53_code 101 = .ok (.iload_n 2, 1) := by decide +kernel
theorem d_Md_fact_102 : decode prog_12_method_53_code 102 = .ok (.iadd, 1) := by decide +kernel
theorem d_Md_fact_103 : decode prog_12_method_53_code 103 = .ok (.iaload, 1) := by decide +kernel
theorem d_Md_fact_104 : decode prog_12_method_53_code 104 = .ok (.ireturn, 1) := by decide +kernel
theorem d_Md_fact_105 : decode prog_12_method_53_code 105 = .ok (.iinc 3 (1), 3) := by decide +kernel
theorem d_Md_fact_108 : decode prog_12_method_53_code 108 = .ok (.goto (-76), 3) := by decide +kernel
theorem d_Md_fact_111 : decode prog_12_method_53_code 111 = .ok (.iconst 0, 1) := by decide +kernel
theorem d_Md_fact_112 : decode prog_12_method_53_code 112 = .ok (.ireturn, 1) := by decide +kernel
theorem d_Md_before_0 : decode prog_12_method_52_code 0 = .ok (.iconst 0, 1) := by decide +kernel
theorem d_Md_before_1 : decode prog_12_method_52_code 1 = .ok (.istore_n 3, 1) := by decide +kernel
theorem d_Md_before_2 : decode prog_12_method_52_code 2 = .ok (.iload_n 3, 1) := by decide +kernel
theorem d_Md_before_3 : decode prog_12_method_52_code 3 = .ok (.iconst 5, 1) := by decide +kernel
theorem d_Md_before_4 : decode prog_12_method_52_code 4 = .ok (.if_icmp .ge (61), 3) := by decide +kernel
theorem d_Md_before_7 : decode prog_12_method_52_code 7 = .ok (.aload_n 0, 1) := by decide +kernel
theorem d_Md_before_8 : decode prog_12_method_52_code 8 = .ok (.getfield 69, 3) := by decide +kernel
theorem d_Md_before_11 : decode prog_12_method_52_code 11 = .ok (.iconst 5, 1) := by decide +kernel
theorem d_Md_before_12 : decode prog_12_method_52_code 12 = .ok (.iload_n 1, 1) := by decide +kernel
theorem d_Md_before_13 : decode prog_12_method_52_code 13 = .ok (.imul, 1) := by decide +kernel
theorem d_Md_before_14 : decode prog_12_method_52_code 14 = .ok (.iload_n 3, 1) := by decide +kernel
theorem d_Md_before_15 : decode prog_12_method_52_code 15 = .ok (.iadd, 1) := by decide +kernel
theorem d_Md_before_16 : decode prog_12_method_52_code 16 = .ok (.iaload, 1) := by decide +kernel
theorem d_Md_before_17 : decode prog_12_method_52_code 17 = .ok (.aload_n 0, 1) := by decide +kernel
theorem d_Md_before_18 : decode prog_12_method_52_code 18 = .ok (.getfield 69, 3) := by decide +kernel
theorem d_Md_before_21 : decode prog_12_method_52_code 21 = .ok (.iconst 5, 1) := by decide +kernel
theorem d_Md_before_22 : decode prog_12_method_52_code 22 = .ok (.iload_n 2, 1) := by decide +kernel
theorem d_Md_before_23 : decode prog_12_method_52_code 23 = .ok (.imul, 1) := by decide +kernel
theorem d_Md_before_24 : decode prog_12_method_52_code 24 = .ok (.iload_n 3, 1) := by decide +kernel
theorem d_Md_before_25 : decode prog_12_method_52_code 25 = .ok (.iadd, 1) := by decide +kernel
theorem d_Md_before_26 : decode prog_12_method_52_code 26 = .ok (.iaload, 1) := by decide +kernel
theorem d_Md_before_27 : decode prog_12_method_52_code 27 = .ok (.if_icmp .eq (32), 3) := by decide +kernel
theorem d_Md_before_30 : decode prog_12_method_52_code 30 = .ok (.aload_n 0, 1) := by decide +kernel
theorem d_Md_before_31 : decode prog_12_method_52_code 31 = .ok (.getfield 69, 3) := by decide +kernel
theorem d_Md_before_34 : decode prog_12_method_52_code 34 = .ok (.iconst 5, 1) := by decide +kernel
theorem d_Md_before_35 : decode prog_12_method_52_code 35 = .ok (.iload_n 1, 1) := by decide +kernel
theorem d_Md_before_36 : decode prog_12_method_52_code 36 = .ok (.imul, 1) := by decide +kernel
theorem d_Md_before_37 : decode prog_12_method_52_code 37 = .ok (.iload_n 3, 1) := by decide +kernel
theorem d_Md_before_38 : decode prog_12_method_52_code 38 = .ok (.iadd, 1) := by decide +kernel
theorem d_Md_before_39 : decode prog_12_method_52_code 39 = .ok (.iaload, 1) := by decide +kernel
theorem d_Md_before_40 : decode prog_12_method_52_code 40 = .ok (.aload_n 0, 1) := by decide +kernel
theorem d_Md_before_41 : decode prog_12_method_52_code 41 = .ok (.getfield 69, 3) := by decide +kernel
theorem d_Md_before_44 : decode prog_12_method_52_code 44 = .ok (.iconst 5, 1) := by decide +kernel
theorem d_Md_before_45 : decode prog_12_method_52_code 45 = .ok (.iload_n 2, 1) := by decide +kernel
theorem d_Md_before_46 : decode prog_12_method_52_code 46 = .ok (.imul, 1) := by decide +kernel
theorem d_Md_before_47 : decode prog_12_method_52_code 47 = .ok (.iload_n 3, 1) := by decide +kernel
theorem d_Md_before_48 : decode prog_12_method_52_code 48 = .ok (.iadd, 1) := by decide +kernel
theorem d_Md_before_49 : decode prog_12_method_52_code 49 = .ok (.iaload, 1) := by decide +kernel
theorem d_Md_before_50 : decode prog_12_method_52_code 50 = .ok (.if_icmp .ge (7), 3) := by decide +kernel
theorem d_Md_before_53 : decode prog_12_method_52_code 53 = .ok (.iconst 1, 1) := by decide +kernel
theorem d_Md_before_54 : decode prog_12_method_52_code 54 = .ok (.goto (4), 3) := by decide +kernel
theorem d_Md_before_57 : decode prog_12_method_52_code 57 = .ok (.iconst 0, 1) := by decide +kernel
theorem d_Md_before_58 : decode prog_12_method_52_code 58 = .ok (.ireturn, 1) := by decide +kernel
theorem d_Md_before_59 : decode prog_12_method_52_code 59 = .ok (.iinc 3 (1), 3) := by decide +kernel
theorem d_Md_before_62 : decode prog_12_method_52_code 62 = .ok (.goto (-60), 3) := by decide +kernel
theorem d_Md_before_65 : decode prog_12_method_52_code 65 = .ok (.iconst 0, 1) := by decide +kernel
theorem d_Md_before_66 : decode prog_12_method_52_code 66 = .ok (.ireturn, 1) := by decide +kernel
theorem d_Md_token_0 : decode prog_12_method_54_code 0 = .ok (.iload_n 2, 1) := by decide +kernel
theorem d_Md_token_1 : decode prog_12_method_54_code 1 = .ok (.bipush (10), 2) := by decide +kernel
theorem d_Md_token_3 : decode prog_12_method_54_code 3 = .ok (.irem, 1) := by decide +kernel
theorem d_Md_token_4 : decode prog_12_method_54_code 4 = .ok (.istore_n 3, 1) := by decide +kernel
theorem d_Md_token_5 : decode prog_12_method_54_code 5 = .ok (.aload_n 0, 1) := by decide +kernel
theorem d_Md_token_6 : decode prog_12_method_54_code 6 = .ok (.iload_n 1, 1) := by decide +kernel
theorem d_Md_token_7 : decode prog_12_method_54_code 7 = .ok (.invokevirtual 188, 3) := by decide +kernel
theorem d_Md_token_10 : decode prog_12_method_54_code 10 = .ok (.ifCond .eq (38), 3) := by decide +kernel
theorem d_Md_token_13 : decode prog_12_method_54_code 13 = .ok (.iload_n 2, 1) := by decide +kernel
theorem d_Md_token_14 : decode prog_12_method_54_code 14 = .ok (.ifCond .lt (8), 3) := by decide +kernel
theorem d_Md_token_17 : decode prog_12_method_54_code 17 = .ok (.iload_n 2, 1) := by decide +kernel
theorem d_Md_token_18 : decode prog_12_method_54_code 18 = .ok (.iconst 3, 1) := by decide +kernel
theorem d_Md_token_19 : decode prog_12_method_54_code 19 = .ok (.if_icmp .lt (25), 3) := by decide +kernel
theorem d_Md_token_22 : decode prog_12_method_54_code 22 = .ok (.iload_n 2, 1) := by decide +kernel
theorem d_Md_token_23 : decode prog_12_method_54_code 23 = .ok (.bipush (10), 2) := by decide +kernel
theorem d_Md_token_25 : decode prog_12_method_54_code 25 = .ok (.if_icmp .lt (23), 3) := by decide +kernel
theorem d_Md_token_28 : decode prog_12_method_54_code 28 = .ok (.iload_n 2, 1) := by decide +kernel
theorem d_Md_token_29 : decode prog_12_method_54_code 29 = .ok (.bipush (40), 2) := by decide +kernel
theorem d_Md_token_31 : decode prog_12_method_54_code 31 = .ok (.if_icmp .ge (17), 3) := by decide +kernel
theorem d_Md_token_34 : decode prog_12_method_54_code 34 = .ok (.iload_n 3, 1) := by decide +kernel
theorem d_Md_token_35 : decode prog_12_method_54_code 35 = .ok (.aload_n 0, 1) := by decide +kernel
theorem d_Md_token_36 : decode prog_12_method_54_code 36 = .ok (.getfield 29, 3) := by decide +kernel
theorem d_Md_token_39 : decode prog_12_method_54_code 39 = .ok (.iload_n 1, 1) := by decide +kernel
theorem d_Md_token_40 : decode prog_12_method_54_code 40 = .ok (.iaload, 1) := by decide +kernel
theorem d_Md_token_41 : decode prog_12_method_54_code 41 = .ok (.if_icmp .ge (7), 3) := by decide +kernel
theorem d_Md_token_44 : decode prog_12_method_54_code 44 = .ok (.iconst 1, 1) := by decide +kernel
theorem d_Md_token_45 : decode prog_12_method_54_code 45 = .ok (.goto (4), 3) := by decide +kernel
theorem d_Md_token_48 : decode prog_12_method_54_code 48 = .ok (.iconst 0, 1) := by decide +kernel
theorem d_Md_token_49 : decode prog_12_method_54_code 49 = .ok (.istore 4, 2) := by decide +kernel
theorem d_Md_token_51 : decode prog_12_method_54_code 51 = .ok (.aload_n 0, 1) := by decide +kernel
theorem d_Md_token_52 : decode prog_12_method_54_code 52 = .ok (.iload 4, 2) := by decide +kernel
theorem d_Md_token_54 : decode prog_12_method_54_code 54 = .ok (.ifCond .eq (7), 3) := by decide +kernel
theorem d_Md_token_57 : decode prog_12_method_54_code 57 = .ok (.iconst 0, 1) := by decide +kernel
theorem d_Md_token_58 : decode prog_12_method_54_code 58 = .ok (.goto (4), 3) := by decide +kernel
theorem d_Md_token_61 : decode prog_12_method_54_code 61 = .ok (.iconst 1, 1) := by decide +kernel
theorem d_Md_token_62 : decode prog_12_method_54_code 62 = .ok (.putfield 84, 3) := by decide +kernel
theorem d_Md_token_65 : decode prog_12_method_54_code 65 = .ok (.iload 4, 2) := by decide +kernel
theorem d_Md_token_67 : decode prog_12_method_54_code 67 = .ok (.ifCond .ne (5), 3) := by decide +kernel
theorem d_Md_token_70 : decode prog_12_method_54_code 70 = .ok (.iconst 0, 1) := by decide +kernel
theorem d_Md_token_71 : decode prog_12_method_54_code 71 = .ok (.ireturn, 1) := by decide +kernel
theorem d_Md_token_72 : decode prog_12_method_54_code 72 = .ok (.iload_n 2, 1) := by decide +kernel
theorem d_Md_token_73 : decode prog_12_method_54_code 73 = .ok (.ifCond .ne (12), 3) := by decide +kernel
theorem d_Md_token_76 : decode prog_12_method_54_code 76 = .ok (.aload_n 0, 1) := by decide +kernel
theorem d_Md_token_77 : decode prog_12_method_54_code 77 = .ok (.getfield 29, 3) := by decide +kernel
theorem d_Md_token_80 : decode prog_12_method_54_code 80 = .ok (.iload_n 1, 1) := by decide +kernel
theorem d_Md_token_81 : decode prog_12_method_54_code 81 = .ok (.iaload, 1) := by decide +kernel
theorem d_Md_token_82 : decode prog_12_method_54_code 82 = .ok (.goto (51), 3) := by decide +kernel
theorem d_Md_token_85 : decode prog_12_method_54_code 85 = .ok (.iload_n 2, 1) := by decide +kernel
theorem d_Md_token_86 : decode prog_12_method_54_code 86 = .ok (.iconst 1, 1) := by decide +kernel
theorem d_Md_token_87 : decode prog_12_method_54_code 87 = .ok (.if_icmp .ne (20), 3) := by decide +kernel
theorem d_Md_token_90 : decode prog_12_method_54_code 90 = .ok (.aload_n 0, 1) := by decide +kernel
theorem d_Md_token_91 : decode prog_12_method_54_code 91 = .ok (.getfield 35, 3) := by decide +kernel
theorem d_Md_token_94 : decode prog_12_method_54_code 94 = .ok (.iload_n 1, 1) := by decide +kernel
theorem d_Md_token_95 : decode prog_12_method_54_code 95 = .ok (.baload, 1) := by decide +kernel
theorem d_Md_token_96 : decode prog_12_method_54_code 96 = .ok (.ifCond .eq (7), 3) := by decide +kernel
theorem d_Md_token_99 : decode prog_12_method_54_code 99 = .ok (.iconst 1, 1) := by decide +kernel
theorem d_Md_token_100 : decode prog_12_method_54_code 100 = .ok (.goto (33), 3) := by decide +kernel
theorem d_Md_token_103 : decode prog_12_method_54_code 103 = .ok (.iconst 0, 1) := by decide +kernel
theorem d_Md_token_104 : decode prog_12_method_54_code 104 = .ok (.goto (29), 3) := by decide +kernel
theorem d_Md_token_107 : decode prog_12_method_54_code 107 = .ok (.iload_n 2, 1) := by decide +kernel
theorem d_Md_token_108 : decode prog_12_method_54_code 108 = .ok (.iconst 2, 1) := by decide +kernel
theorem d_Md_token_109 : decode prog_12_method_54_code 109 = .ok (.if_icmp .ne (12), 3) := by decide +kernel
theorem d_Md_token_112 : decode prog_12_method_54_code 112 = .ok (.aload_n 0, 1) := by decide +kernel
theorem d_Md_token_113 : decode prog_12_method_54_code 113 = .ok (.getfield 39, 3) := by decide +kernel
theorem d_Md_token_116 : decode prog_12_method_54_code 116 = .ok (.iload_n 1, 1) := by decide +kernel
theorem d_Md_token_117 : decode prog_12_method_54_code 117 = .ok (.iaload, 1) := by decide +kernel
theorem d_Md_token_118 : decode prog_12_method_54_code 118 = .ok (.goto (15), 3) := by decide +kernel
theorem d_Md_token_121 : decode prog_12_method_54_code 121 = .ok (.aload_n 0, 1) := by decide +kernel
theorem d_Md_token_122 : decode prog_12_method_54_code 122 = .ok (.iload_n 1, 1) := by decide +kernel
theorem d_Md_token_123 : decode prog_12_method_54_code 123 = .ok (.iload_n 3, 1) := by decide +kernel
theorem d_Md_token_124 : decode prog_12_method_54_code 124 = .ok (.iload_n 2, 1) := by decide +kernel
theorem d_Md_token_125 : decode prog_12_method_54_code 125 = .ok (.bipush (10), 2) := by decide +kernel
theorem d_Md_token_127 : decode prog_12_method_54_code 127 = .ok (.idiv, 1) := by decide +kernel
theorem d_Md_token_128 : decode prog_12_method_54_code 128 = .ok (.iconst 1, 1) := by decide +kernel
theorem d_Md_token_129 : decode prog_12_method_54_code 129 = .ok (.isub, 1) := by decide +kernel
theorem d_Md_token_130 : decode prog_12_method_54_code 130 = .ok (.invokevirtual 198, 3) := by decide +kernel
theorem d_Md_token_133 : decode prog_12_method_54_code 133 = .ok (.ireturn, 1) := by decide +kernel
