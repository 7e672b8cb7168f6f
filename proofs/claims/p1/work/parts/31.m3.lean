theorem d_Md_loadAll_0 : decode prog_12_method_47_code 0 = .ok (.aload_n 0, 1) := by decide +kernel
theorem d_Md_loadAll_1 : decode prog_12_method_47_code 1 = .ok (.iconst 0, 1) := by decide +kernel
theorem d_Md_loadAll_2 : decode prog_12_method_47_code 2 = .ok (.putfield 252, 3) := by decide +kernel
theorem d_Md_loadAll_5 : decode prog_12_method_47_code 5 = .ok (.iconst 0, 1) := by decide +kernel
theorem d_Md_loadAll_6 : decode prog_12_method_47_code 6 = .ok (.istore_n 2, 1) := by decide +kernel
theorem d_Md_loadAll_7 : decode prog_12_method_47_code 7 = .ok (.iload_n 2, 1) := by decide +kernel
theorem d_Md_loadAll_8 : decode prog_12_method_47_code 8 = .ok (.aload_n 0, 1) := by decide +kernel
theorem d_Md_loadAll_9 : decode prog_12_method_47_code 9 = .ok (.getfield 29, 3) := by decide +kernel
theorem d_Md_loadAll_12 : decode prog_12_method_47_code 12 = .ok (.iload_n 1, 1) := by decide +kernel
theorem d_Md_loadAll_13 : decode prog_12_method_47_code 13 = .ok (.iaload, 1) := by decide +kernel
theorem d_Md_loadAll_14 : decode prog_12_method_47_code 14 = .ok (.if_icmp .ge (48), 3) := by decide +kernel
theorem d_Md_loadAll_17 : decode prog_12_method_47_code 17 = .ok (.aload_n 0, 1) := by decide +kernel
theorem d_Md_loadAll_18 : decode prog_12_method_47_code 18 = .ok (.iload_n 1, 1) := by decide +kernel
theorem d_Md_loadAll_19 : decode prog_12_method_47_code 19 = .ok (.iload_n 2, 1) := by decide +kernel
theorem d_Md_loadAll_20 : decode prog_12_method_47_code 20 = .ok (.iconst 0, 1) := by decide +kernel
theorem d_Md_loadAll_21 : decode prog_12_method_47_code 21 = .ok (.invokevirtual 198, 3) := by decide +kernel
theorem d_Md_loadAll_24 : decode prog_12_method_47_code 24 = .ok (.istore_n 3, 1) := by decide +kernel
theorem d_Md_loadAll_25 : decode prog_12_method_47_code 25 = .ok (.iconst 0, 1) := by decide +kernel
theorem d_Md_loadAll_26 : decode prog_12_method_47_code 26 = .ok (.istore 4, 2) := by decide +kernel
theorem d_Md_loadAll_28 : decode prog_12_method_47_code 28 = .ok (.iload 4, 2) := by decide +kernel
theorem d_Md_loadAll_30 : decode prog_12_method_47_code 30 = .ok (.aload_n 0, 1) := by decide +kernel
theorem d_Md_loadAll_31 : decode prog_12_method_47_code 31 = .ok (.getfield 16, 3) := by decide +kernel
theorem d_Md_loadAll_34 : decode prog_12_method_47_code 34 = .ok (.iload_n 3, 1) := by decide +kernel
theorem d_Md_loadAll_35 : decode prog_12_method_47_code 35 = .ok (.iaload, 1) := by decide +kernel
theorem d_Md_loadAll_36 : decode prog_12_method_47_code 36 = .ok (.if_icmp .ge (20), 3) := by decide +kernel
theorem d_Md_loadAll_39 : decode prog_12_method_47_code 39 = .ok (.aload_n 0, 1) := by decide +kernel
theorem d_Md_loadAll_40 : decode prog_12_method_47_code 40 = .ok (.iconst 5, 1) := by decide +kernel
theorem d_Md_loadAll_41 : decode prog_12_method_47_code 41 = .ok (.iload_n 3, 1) := by decide +kernel
theorem d_Md_loadAll_42 : decode prog_12_method_47_code 42 = .ok (.imul, 1) := by decide +kernel
theorem d_Md_loadAll_43 : decode prog_12_method_47_code 43 = .ok (.iload 4, 2) := by decide +kernel
theorem d_Md_loadAll_45 : decode prog_12_method_47_code 45 = .ok (.iadd, 1) := by decide +kernel
theorem d_Md_loadAll_46 : decode prog_12_method_47_code 46 = .ok (.iload_n 2, 1) := by decide +kernel
theorem d_Md_loadAll_47 : decode prog_12_method_47_code 47 = .ok (.invokevirtual 255, 3) := by decide +kernel
theorem d_Md_loadAll_50 : decode prog_12_method_47_code 50 = .ok (.iinc 4 (1), 3) := by decide +kernel
theorem d_Md_loadAll_53 : decode prog_12_method_47_code 53 = .ok (.goto (-25), 3) := by decide +kernel
theorem d_Md_loadAll_56 : decode prog_12_method_47_code 56 = .ok (.iinc 2 (1), 3) := by decide +kernel
theorem d_Md_loadAll_59 : decode prog_12_method_47_code 59 = .ok (.goto (-52), 3) := by decide +kernel
theorem d_Md_loadAll_62 : decode prog_12_method_47_code 62 = .ok (.iconst 0, 1) := by decide +kernel
theorem d_Md_loadAll_63 : decode prog_12_method_47_code 63 = .ok (.istore_n 2, 1) := by decide +kernel
theorem d_Md_loadAll_64 : decode prog_12_method_47_code 64 = .ok (.iload_n 2, 1) := by decide +kernel
theorem d_Md_loadAll_65 : decode prog_12_method_47_code 65 = .ok (.aload_n 0, 1) := by decide +kernel
theorem d_Md_loadAll_66 : decode prog_12_method_47_code 66 = .ok (.getfield 172, 3) := by decide +kernel
theorem d_Md_loadAll_69 : decode prog_12_method_47_code 69 = .ok (.if_icmp .ge (18), 3) := by decide +kernel
theorem d_Md_loadAll_72 : decode prog_12_method_47_code 72 = .ok (.aload_n 0, 1) := by decide +kernel
theorem d_Md_loadAll_73 : decode prog_12_method_47_code 73 = .ok (.bipush (85), 2) := by decide +kernel
theorem d_Md_loadAll_75 : decode prog_12_method_47_code 75 = .ok (.iload_n 2, 1) := by decide +kernel
theorem d_Md_loadAll_76 : decode prog_12_method_47_code 76 = .ok (.iadd, 1) := by decide +kernel
theorem d_Md_loadAll_77 : decode prog_12_method_47_code 77 = .ok (.iconst 4, 1) := by decide +kernel
theorem d_Md_loadAll_78 : decode prog_12_method_47_code 78 = .ok (.invokevirtual 255, 3) := by decide +kernel
theorem d_Md_loadAll_81 : decode prog_12_method_47_code 81 = .ok (.iinc 2 (1), 3) := by decide +kernel
theorem d_Md_loadAll_84 : decode prog_12_method_47_code 84 = .ok (.goto (-20), 3) := by decide +kernel
theorem d_Md_loadAll_87 : decode prog_12_method_47_code 87 = .ok (.aload_n 0, 1) := by decide +kernel
theorem d_Md_loadAll_88 : decode prog_12_method_47_code 88 = .ok (.iconst 0, 1) := by decide +kernel
theorem d_Md_loadAll_89 : decode prog_12_method_47_code 89 = .ok (.putfield 202, 3) := by decide +kernel
theorem d_Md_loadAll_92 : decode prog_12_method_47_code 92 = .ok (.iconst 0, 1) := by decide +kernel
theorem d_Md_loadAll_93 : decode prog_12_method_47_code 93 = .ok (.istore_n 2, 1) := by decide +kernel
theorem d_Md_loadAll_94 : decode prog_12_method_47_code 94 = .ok (.iload_n 2, 1) := by decide +kernel
theorem d_Md_loadAll_95 : decode prog_12_method_47_code 95 = .ok (.aload_n 0, 1) := by decide +kernel
theorem d_Md_loadAll_96 : decode prog_12_method_47_code 96 = .ok (.getfield 252, 3) := by decide +kernel
theorem d_Md_loadAll_99 : decode prog_12_method_47_code 99 = .ok (.if_icmp .ge (104), 3) := by decide +kernel
theorem d_Md_loadAll_102 : decode prog_12_method_47_code 102 = .ok (.aload_n 0, 1) := by decide +kernel
theorem d_Md_loadAll_103 : decode prog_12_method_47_code 103 = .ok (.getfield 45, 3) := by decide +kernel
theorem d_Md_loadAll_106 : decode prog_12_method_47_code 106 = .ok (.iload_n 2, 1) := by decide +kernel
theorem d_Md_loadAll_107 : decode prog_12_method_47_code 107 = .ok (.iaload, 1) := by decide +kernel
theorem d_Md_loadAll_108 : decode prog_12_method_47_code 108 = .ok (.ifCond .ne (89), 3) := by decide +kernel
theorem d_Md_loadAll_111 : decode prog_12_method_47_code 111 = .ok (.bipush (16), 2) := by decide +kernel
theorem d_Md_loadAll_113 : decode prog_12_method_47_code 113 = .ok (.iload_n 2, 1) := by decide +kernel
theorem d_Md_loadAll_114 : decode prog_12_method_47_code 114 = .ok (.imul, 1) := by decide +kernel
theorem d_Md_loadAll_115 : decode prog_12_method_47_code 115 = .ok (.istore_n 3, 1) := by decide +kernel
theorem d_Md_loadAll_116 : decode prog_12_method_47_code 116 = .ok (.aload_n 0, 1) := by decide +kernel
theorem d_Md_loadAll_117 : decode prog_12_method_47_code 117 = .ok (.aload_n 0, 1) := by decide +kernel
theorem d_Md_loadAll_118 : decode prog_12_method_47_code 118 = .ok (.getfield 57, 3) := by decide +kernel
theorem d_Md_loadAll_121 : decode prog_12_method_47_code 121 = .ok (.iload_n 3, 1) := by decide +kernel
theorem d_Md_loadAll_122 : decode prog_12_method_47_code 122 = .ok (.iaload, 1) := by decide +kernel
theorem d_Md_loadAll_123 : decode prog_12_method_47_code 123 = .ok (.aload_n 0, 1) := by decide +kernel
theorem d_Md_loadAll_124 : decode prog_12_method_47_code 124 = .ok (.getfield 57, 3) := by decide +kernel
theorem d_Md_loadAll_127 : decode prog_12_method_47_code 127 = .ok (.iload_n 3, 1) := by decide +kernel
theorem d_Md_loadAll_128 : decode prog_12_method_47_code 128 = .ok (.iconst 1, 1) := by decide +kernel
theorem d_Md_loadAll_129 : decode prog_12_method_47_code 129 = .ok (.iadd, 1) := by decide +kernel
theorem d_Md_loadAll_130 : decode prog_12_method_47_code 130 = .ok (.iaload, 1) := by decide +kernel
theorem d_Md_loadAll_131 : decode prog_12_method_47_code 131 = .ok (.aload_n 0, 1) := by decide +kernel
theorem d_Md_loadAll_132 : decode prog_12_method_47_code 132 = .ok (.getfield 57, 3) := by decide +kernel
theorem d_Md_loadAll_135 : decode prog_12_method_47_code 135 = .ok (.iload_n 3, 1) := by decide +kernel
theorem d_Md_loadAll_136 : decode prog_12_method_47_code 136 = .ok (.iconst 1, 1) := by decide +kernel
theorem d_Md_loadAll_137 : decode prog_12_method_47_code 137 = .ok (.iadd, 1) := by decide +kernel
theorem d_Md_loadAll_138 : decode prog_12_method_47_code 138 = .ok (.iaload, 1) := by decide +kernel
theorem d_Md_loadAll_139 : decode prog_12_method_47_code 139 = .ok (.ifCond .le (18), 3) := by decide +kernel
theorem d_Md_loadAll_142 : decode prog_12_method_47_code 142 = .ok (.aload_n 0, 1) := by decide +kernel
theorem d_Md_loadAll_143 : decode prog_12_method_47_code 143 = .ok (.aload_n 0, 1) := by decide +kernel
theorem d_Md_loadAll_144 : decode prog_12_method_47_code 144 = .ok (.getfield 57, 3) := by decide +kernel
theorem d_Md_loadAll_147 : decode prog_12_method_47_code 147 = .ok (.iload_n 3, 1) := by decide +kernel
theorem d_Md_loadAll_148 : decode prog_12_method_47_code 148 = .ok (.iconst 2, 1) := by decide +kernel
theorem d_Md_loadAll_149 : decode prog_12_method_47_code 149 = .ok (.iadd, 1) := by decide +kernel
theorem d_Md_loadAll_150 : decode prog_12_method_47_code 150 = .ok (.iaload, 1) := by decide +kernel
theorem d_Md_loadAll_151 : decode prog_12_method_47_code 151 = .ok (.invokevirtual 246, 3) := by decide +kernel
theorem d_Md_loadAll_154 : decode prog_12_method_47_code 154 = .ok (.goto (4), 3) := by decide +kernel
theorem d_Md_loadAll_157 : decode prog_12_method_47_code 157 = .ok (.iconst 0, 1) := by decide +kernel
theorem d_Md_loadAll_158 : decode prog_12_method_47_code 158 = .ok (.aload_n 0, 1) := by decide +kernel
theorem d_Md_loadAll_159 : decode prog_12_method_47_code 159 = .ok (.getfield 57, 3) := by decide +kernel
theorem d_Md_loadAll_162 : decode prog_12_method_47_code 162 = .ok (.iload_n 3, 1) := by decide +kernel
theorem d_Md_loadAll_163 : decode prog_12_method_47_code 163 = .ok (.iconst 1, 1) := by decide +kernel
theorem d_Md_loadAll_164 : decode prog_12_method_47_code 164 = .ok (.iadd, 1) := by decide +kernel
theorem d_Md_loadAll_165 : decode prog_12_method_47_code 165 = .ok (.iaload, 1) := by decide +kernel
theorem d_Md_loadAll_166 : decode prog_12_method_47_code 166 = .ok (.iconst 1, 1) := by decide +kernel
theorem d_Md_loadAll_167 : decode prog_12_method_47_code 167 = .ok (.if_icmp .le (18), 3) := by decide +kernel
theorem d_Md_loadAll_170 : decode prog_12_method_47_code 170 = .ok (.aload_n 0, 1) := by decide +kernel
theorem d_Md_loadAll_171 : decode prog_12_method_47_code 171 = .ok (.aload_n 0, 1) := by decide +kernel
theorem d_Md_loadAll_172 : decode prog_12_method_47_code 172 = .ok (.getfield 57, 3) := by decide +kernel
theorem d_Md_loadAll_175 : decode prog_12_method_47_code 175 = .ok (.iload_n 3, 1) := by decide +kernel
theorem d_Md_loadAll_176 : decode prog_12_method_47_code 176 = .ok (.iconst 3, 1) := by decide +kernel
theorem d_Md_loadAll_177 : decode prog_12_method_47_code 177 = .ok (.iadd, 1) := by decide +kernel
theorem d_Md_loadAll_178 : decode prog_12_method_47_code 178 = .ok (.iaload, 1) := by decide +kernel
theorem d_Md_loadAll_179 : decode prog_12_method_47_code 179 = .ok (.invokevirtual 246, 3) := by decide +kernel
theorem d_Md_loadAll_182 : decode prog_12_method_47_code 182 = .ok (.goto (4), 3) := by decide +kernel
theorem d_Md_loadAll_185 : decode prog_12_method_47_code 185 = .ok (.iconst 0, 1) := by decide +kernel
theorem d_Md_loadAll_186 : decode prog_12_method_47_code 186 = .ok (.iconst 1, 1) := by decide +kernel
theorem d_Md_loadAll_187 : decode prog_12_method_47_code 187 = .ok (.aload_n 0, 1) := by decide +kernel
theorem d_Md_loadAll_188 : decode prog_12_method_47_code 188 = .ok (.getfield 48, 3) := by decide +kernel
theorem d_Md_loadAll_191 : decode prog_12_method_47_code 191 = .ok (.iload_n 2, 1) := by decide +kernel
theorem d_Md_loadAll_192 : decode prog_12_method_47_code 192 = .ok (.iaload, 1) := by decide +kernel
theorem d_Md_loadAll_193 : decode prog_12_method_47_code 193 = .ok (.ishl, 1) := by decide +kernel
theorem d_Md_loadAll_194 : decode prog_12_method_47_code 194 = .ok (.invokevirtual 249, 3) := by decide +kernel
theorem d_Md_loadAll_197 : decode prog_12_method_47_code 197 = .ok (.iinc 2 (1), 3) := by decide +kernel
theorem d_Md_loadAll_200 : decode prog_12_method_47_code 200 = .ok (.goto (-106), 3) := by decide +kernel
theorem d_Md_loadAll_203 : decode prog_12_method_47_code 203 = .ok (.return_, 1) := by decide +kernel
theorem d_Md_load_0 : decode prog_12_method_46_code 0 = .ok (.aload_n 0, 1) := by decide +kernel
theorem d_Md_load_1 : decode prog_12_method_46_code 1 = .ok (.getfield 45, 3) := by decide +kernel
theorem d_Md_load_4 : decode prog_12_method_46_code 4 = .ok (.aload_n 0, 1) := by decide +kernel
theorem d_Md_load_5 : decode prog_12_method_46_code 5 = .ok (.getfield 252, 3) := by decide +kernel
theorem d_Md_load_8 : decode prog_12_method_46_code 8 = .ok (.aload_n 0, 1) := by decide +kernel
theorem d_Md_load_9 : decode prog_12_method_46_code 9 = .ok (.iload_n 1, 1) := by decide +kernel
theorem d_Md_load_10 : decode prog_12_method_46_code 10 = .ok (.aload_n 0, 1) := by decide +kernel
theorem d_Md_load_11 : decode prog_12_method_46_code 11 = .ok (.getfield 252, 3) := by decide +kernel
theorem d_Md_load_14 : decode prog_12_method_46_code 14 = .ok (.invokevirtual 164, 3) := by decide +kernel
theorem d_Md_load_17 : decode prog_12_method_46_code 17 = .ok (.iastore, 1) := by decide +kernel
theorem d_Md_load_18 : decode prog_12_method_46_code 18 = .ok (.aload_n 0, 1) := by decide +kernel
theorem d_Md_load_19 : decode prog_12_method_46_code 19 = .ok (.getfield 48, 3) := by decide +kernel
theorem d_Md_load_22 : decode prog_12_method_46_code 22 = .ok (.aload_n 0, 1) := by decide +kernel
theorem d_Md_load_23 : decode prog_12_method_46_code 23 = .ok (.getfield 252, 3) := by decide +kernel
theorem d_Md_load_26 : decode prog_12_method_46_code 26 = .ok (.iload_n 2, 1) := by decide +kernel
theorem d_Md_load_27 : decode prog_12_method_46_code 27 = .ok (.iastore, 1) := by decide +kernel
theorem d_Md_load_28 : decode prog_12_method_46_code 28 = .ok (.aload_n 0, 1) := by decide +kernel
theorem d_Md_load_29 : decode prog_12_method_46_code 29 = .ok (.dup, 1) := by decide +kernel
theorem d_Md_load_30 : decode prog_12_method_46_code 30 = .ok (.getfield 252, 3) := by decide +kernel
theorem d_Md_load_33 : decode prog_12_method_46_code 33 = .ok (.iconst 1, 1) := by decide +kernel
theorem d_Md_load_34 : decode prog_12_method_46_code 34 = .ok (.iadd, 1) := by decide +kernel
theorem d_Md_load_35 : decode prog_12_method_46_code 35 = .ok (.putfield 252, 3) := by decide +kernel
theorem d_Md_load_38 : decode prog_12_method_46_code 38 = .ok (.return_, 1) := by decide +kernel
theorem d_Md_worth_0 : decode prog_12_method_38_code 0 = .ok (.iload_n 1, 1) := by decide +kernel
theorem d_Md_worth_1 : decode prog_12_method_38_code 1 = .ok (.ldc 137, 2) := by decide +kernel
theorem d_Md_worth_3 : decode prog_12_method_38_code 3 = .ok (.if_icmp .lt (15), 3) := by decide +kernel
theorem d_Md_worth_6 : decode prog_12_method_38_code 6 = .ok (.aload_n 0, 1) := by decide +kernel
theorem d_Md_worth_7 : decode prog_12_method_38_code 7 = .ok (.getfield 78, 3) := by decide +kernel
theorem d_Md_worth_10 : decode prog_12_method_38_code 10 = .ok (.iload_n 1, 1) := by decide +kernel
theorem d_Md_worth_11 : decode prog_12_method_38_code 11 = .ok (.ldc 137, 2) := by decide +kernel
theorem d_Md_worth_13 : decode prog_12_method_38_code 13 = .ok (.isub, 1) := by decide +kernel
theorem d_Md_worth_14 : decode prog_12_method_38_code 14 = .ok (.iaload, 1) := by decide +kernel
theorem d_Md_worth_15 : decode prog_12_method_38_code 15 = .ok (.goto (8), 3) := by decide +kernel
theorem d_Md_worth_18 : decode prog_12_method_38_code 18 = .ok (.iload_n 1, 1) := by decide +kernel
theorem d_Md_worth_19 : decode prog_12_method_38_code 19 = .ok (.sipush (10000), 3) := by decide +kernel
theorem d_Md_worth_22 : decode prog_12_method_38_code 22 = .ok (.isub, 1) := by decide +kernel
theorem d_Md_worth_23 : decode prog_12_method_38_code 23 = .ok (.ireturn, 1) := by decide +kernel
theorem d_Md_add_0 : decode prog_12_method_37_code 0 = .ok (.iconst 0, 1) := by decide +kernel
theorem d_Md_add_1 : decode prog_12_method_37_code 1 = .ok (.istore 6, 2) := by decide +kernel
theorem d_Md_add_3 : decode prog_12_method_37_code 3 = .ok (.iload 6, 2) := by decide +kernel
theorem d_Md_add_5 : decode prog_12_method_37_code 5 = .ok (.aload_n 0, 1) := by decide +kernel
theorem d_Md_add_6 : decode prog_12_method_37_code 6 = .ok (.getfield 202, 3) := by decide +kernel
theorem d_Md_add_9 : decode prog_12_method_37_code 9 = .ok (.if_icmp .ge (81), 3) := by decide +kernel
theorem d_Md_add_12 : decode prog_12_method_37_code 12 = .ok (.iconst 5, 1) := by decide +kernel
theorem d_Md_add_13 : decode prog_12_method_37_code 13 = .ok (.iload 6, 2) := by decide +kernel
theorem d_Md_add_15 : decode prog_12_method_37_code 15 = .ok (.imul, 1) := by decide +kernel
theorem d_Md_add_16 : decode prog_12_method_37_code 16 = .ok (.istore 7, 2) := by decide +kernel
theorem d_Md_add_18 : decode prog_12_method_37_code 18 = .ok (.aload_n 0, 1) := by decide +kernel
theorem d_Md_add_19 : decode prog_12_method_37_code 19 = .ok (.getfield 69, 3) := by decide +kernel
theorem d_Md_add_22 : decode prog_12_method_37_code 22 = .ok (.iload 7, 2) := by decide +kernel
theorem d_Md_add_24 : decode prog_12_method_37_code 24 = .ok (.iaload, 1) := by decide +kernel
theorem d_Md_add_25 : decode prog_12_method_37_code 25 = .ok (.iload_n 1, 1) := by decide +kernel
theorem d_Md_add_26 : decode prog_12_method_37_code 26 = .ok (.if_icmp .ne (58), 3) := by decide +kernel
theorem d_Md_add_29 : decode prog_12_method_37_code 29 = .ok (.aload_n 0, 1) := by decide +kernel
theorem d_Md_add_30 : decode prog_12_method_37_code 30 = .ok (.getfield 69, 3) := by decide +kernel
theorem d_Md_add_33 : decode prog_12_method_37_code 33 = .ok (.iload 7, 2) := by decide +kernel
theorem d_Md_add_35 : decode prog_12_method_37_code 35 = .ok (.iconst 1, 1) := by decide +kernel
theorem d_Md_add_36 : decode prog_12_method_37_code 36 = .ok (.iadd, 1) := by decide +kernel
theorem d_Md_add_37 : decode prog_12_method_37_code 37 = .ok (.iaload, 1) := by decide +kernel
theorem d_Md_add_38 : decode prog_12_method_37_code 38 = .ok (.iload_n 2, 1) := by decide +kernel
theorem d_Md_add_39 : decode prog_12_method_37_code 39 = .ok (.if_icmp .ne (45), 3) := by decide +kernel
theorem d_Md_add_42 : decode prog_12_method_37_code 42 = .ok (.aload_n 0, 1) := by decide +kernel
theorem d_Md_add_43 : decode prog_12_method_37_code 43 = .ok (.getfield 69, 3) := by decide +kernel
theorem d_Md_add_46 : decode prog_12_method_37_code 46 = .ok (.iload 7, 2) := by decide +kernel
theorem d_Md_add_48 : decode prog_12_method_37_code 48 = .ok (.iconst 2, 1) := by decide +kernel
theorem d_Md_add_49 : decode prog_12_method_37_code 49 = .ok (.iadd, 1) := by decide +kernel
theorem d_Md_add_50 : decode prog_12_method_37_code 50 = .ok (.iaload, 1) := by decide +kernel
theorem d_Md_add_51 : decode prog_12_method_37_code 51 = .ok (.iload_n 3, 1) := by decide +kernel
theorem d_Md_add_52 : decode prog_12_method_37_code 52 = .ok (.if_icmp .ne (32), 3) := by decide +kernel
theorem d_Md_add_55 : decode prog_12_method_37_code 55 = .ok (.aload_n 0, 1) := by decide +kernel
theorem d_Md_add_56 : decode prog_12_method_37_code 56 = .ok (.getfield 69, 3) := by decide +kernel
theorem d_Md_add_59 : decode prog_12_method_37_code 59 = .ok (.iload 7, 2) := by decide +kernel
theorem d_Md_add_61 : decode prog_12_method_37_code 61 = .ok (.iconst 3, 1) := by decide +kernel
theorem d_Md_add_62 : decode prog_12_method_37_code 62 = .ok (.iadd, 1) := by decide +kernel
theorem d_Md_add_63 : decode prog_12_method_37_code 63 = .ok (.iaload, 1) := by decide +kernel
theorem d_Md_add_64 : decode prog_12_method_37_code 64 = .ok (.iload 4, 2) := by decide +kernel
theorem d_Md_add_66 : decode prog_12_method_37_code 66 = .ok (.if_icmp .ne (18), 3) := by decide +kernel
theorem d_Md_add_69 : decode prog_12_method_37_code 69 = .ok (.aload_n 0, 1) := by decide +kernel
theorem d_Md_add_70 : decode prog_12_method_37_code 70 = .ok (.getfield 69, 3) := by decide +kernel
theorem d_Md_add_73 : decode prog_12_method_37_code 73 = .ok (.iload 7, 2) := by decide +kernel
theorem d_Md_add_75 : decode prog_12_method_37_code 75 = .ok (.iconst 4, 1) := by decide +kernel
theorem d_Md_add_76 : decode prog_12_method_37_code 76 = .ok (.iadd, 1) := by decide +kernel
theorem d_Md_add_77 : decode prog_12_method_37_code 77 = .ok (.iaload, 1) := by decide +kernel
theorem d_Md_add_78 : decode prog_12_method_37_code 78 = .ok (.iload 5, 2) := by decide +kernel
theorem d_Md_add_80 : decode prog_12_method_37_code 80 = .ok (.if_icmp .ne (4), 3) := by decide +kernel
theorem d_Md_add_83 : decode prog_12_method_37_code 83 = .ok (.return_, 1) := by decide +kernel
theorem d_Md_add_84 : decode prog_12_method_37_code 84 = .ok (.iinc 6 (1), 3) := by decide +kernel
theorem d_Md_add_87 : decode prog_12_method_37_code 87 = .ok (.goto (-84), 3) := by decide +kernel
theorem d_Md_add_90 : decode prog_12_method_37_code 90 = .ok (.aload_n 0, 1) := by decide +kernel
theorem d_Md_add_91 : decode prog_12_method_37_code 91 = .ok (.getfield 202, 3) := by decide +kernel
theorem d_Md_add_94 : decode prog_12_method_37_code 94 = .ok (.aload_n 0, 1) := by decide +kernel
theorem d_Md_add_95 : decode prog_12_method_37_code 95 = .ok (.getfield 23, 3) := by decide +kernel
theorem d_Md_add_98 : decode prog_12_method_37_code 98 = .ok (.if_icmp .le (4), 3) := by decide +kernel
theorem d_Md_add_101 : decode prog_12_method_37_code 101 = .ok (.return_, 1) := by decide +kernel
theorem d_Md_add_102 : decode prog_12_method_37_code 102 = .ok (.aload_n 0, 1) := by decide +kernel
theorem d_Md_add_103 : decode prog_12_method_37_code 103 = .ok (.getfield 69, 3) := by decide +kernel
theorem d_Md_add_106 : decode prog_12_method_37_code 106 = .ok (.iconst 5, 1) := by decide +kernel
theorem d_Md_add_107 : decode prog_12_method_37_code 107 = .ok (.aload_n 0, 1) := by decide +kernel
theorem d_Md_add_108 : decode prog_12_method_37_code 108 = .ok (.getfield 202, 3) := by decide +kernel
theorem d_Md_add_111 : decode prog_12_method_37_code 111 = .ok (.imul, 1) := by decide +kernel
theorem d_Md_add_112 : decode prog_12_method_37_code 112 = .ok (.iload_n 1, 1) := by decide +kernel
theorem d_Md_add_113 : decode prog_12_method_37_code 113 = .ok (.iastore, 1) := by decide +kernel
theorem d_Md_add_114 : decode prog_12_method_37_code 114 = .ok (.aload_n 0, 1) := by decide +kernel
theorem d_Md_add_115 : decode prog_12_method_37_code 115 = .ok (.getfield 69, 3) := by decide +kernel
theorem d_Md_add_118 : decode prog_12_method_37_code 118 = .ok (.iconst 5, 1) := by decide +kernel
theorem d_Md_add_119 : decode prog_12_method_37_code 119 = .ok (.aload_n 0, 1) := by decide +kernel
theorem d_Md_add_120 : decode prog_12_method_37_code 120 = .ok (.getfield 202, 3) := by decide +kernel
theorem d_Md_add_123 : decode prog_12_method_37_code 123 = .ok (.imul, 1) := by decide +kernel
theorem d_Md_add_124 : decode prog_12_method_37_code 124 = .ok (.iconst 1, 1) := by decide +kernel
theorem d_Md_add_125 : decode prog_12_method_37_code 125 = .ok (.iadd, 1) := by decide +kernel
theorem d_Md_add_126 : decode prog_12_method_37_code 126 = .ok (.iload_n 2, 1) := by decide +kernel
theorem d_Md_add_127 : decode prog_12_method_37_code 127 = .ok (.iastore, 1) := by decide +kernel
theorem d_Md_add_128 : decode prog_12_method_37_code 128 = .ok (.aload_n 0, 1) := by decide +kernel
theorem d_Md_add_129 : decode prog_12_method_37_code 129 = .ok (.getfield 69, 3) := by decide +kernel
theorem d_Md_add_132 : decode prog_12_method_37_code 132 = .ok (.iconst 5, 1) := by decide +kernel
theorem d_Md_add_133 : decode prog_12_method_37_code 133 = .ok (.aload_n 0, 1) := by decide +kernel
theorem d_Md_add_134 : decode prog_12_method_37_code 134 = .ok (.getfield 202, 3) := by decide +kernel
theorem d_Md_add_137 : decode prog_12_method_37_code 137 = .ok (.imul, 1) := by decide +kernel
theorem d_Md_add_138 : decode prog_12_method_37_code 138 = .ok (.iconst 2, 1) := by decide +kernel
theorem d_Md_add_139 : decode prog_12_method_37_code 139 = .ok (.iadd, 1) := by decide +kernel
theorem d_Md_add_140 : decode prog_12_method_37_code 140 = .ok (.iload_n 3, 1) := by decide +kernel
theorem d_Md_add_141 : decode prog_12_method_37_code 141 = .ok (.iastore, 1) := by decide +kernel
theorem d_Md_add_142 : decode prog_12_method_37_code 142 = .ok (.aload_n 0, 1) := by decide +kernel
theorem d_Md_add_143 : decode prog_12_method_37_code 143 = .ok (.getfield 69, 3) := by decide +kernel
theorem d_Md_add_146 : decode prog_12_method_37_code 146 = .ok (.iconst 5, 1) := by decide +kernel
theorem d_Md_add_147 : decode prog_12_method_37_code 147 = .ok (.aload_n 0, 1) := by decide +kernel
theorem d_Md_add_148 : decode prog_12_method_37_code 148 = .ok (.getfield 202, 3) := by decide +kernel
theorem d_Md_add_151 : decode prog_12_method_37_code 151 = .ok (.imul, 1) := by decide +kernel
theorem d_Md_add_152 : decode prog_12_method_37_code 152 = .ok (.iconst 3, 1) := by decide +kernel
theorem d_Md_add_153 : decode prog_12_method_37_code 153 = .ok (.iadd, 1) := by decide +kernel
theorem d_Md_add_154 : decode prog_12_method_37_code 154 = .ok (.iload 4, 2) := by decide +kernel
theorem d_Md_add_156 : decode prog_12_method_37_code 156 = .ok (.iastore, 1) := by decide +kernel
theorem d_Md_add_157 : decode prog_12_method_37_code 157 = .ok (.aload_n 0, 1) := by decide +kernel
theorem d_Md_add_158 : decode prog_12_method_37_code 158 = .ok (.getfield 69, 3) := by decide +kernel
theorem d_Md_add_161 : decode prog_12_method_37_code 161 = .ok (.iconst 5, 1) := by decide +kernel
theorem d_Md_add_162 : decode prog_12_method_37_code 162 = .ok (.aload_n 0, 1) := by decide +kernel
theorem d_Md_add_163 : decode prog_12_method_37_code 163 = .ok (.getfield 202, 3) := by decide +kernel
theorem d_Md_add_166 : decode prog_12_method_37_code 166 = .ok (.imul, 1) := by decide +kernel
theorem d_Md_add_167 : decode prog_12_method_37_code 167 = .ok (.iconst 4, 1) := by decide +kernel
theorem d_Md_add_168 : decode prog_12_method_37_code 168 = .ok (.iadd, 1) := by decide +kernel
theorem d_Md_add_169 : decode prog_12_method_37_code 169 = .ok (.iload 5, 2) := by decide +kernel
theorem d_Md_add_171 : decode prog_12_method_37_code 171 = .ok (.iastore, 1) := by decide +kernel
theorem d_Md_add_172 : decode prog_12_method_37_code 172 = .ok (.aload_n 0, 1) := by decide +kernel
theorem d_Md_add_173 : decode prog_12_method_37_code 173 = .ok (.dup, 1) := by decide +kernel
theorem d_Md_add_174 : decode prog_12_method_37_code 174 = .ok (.getfield 202, 3) := by decide +kernel
theorem d_Md_add_177 : decode prog_12_method_37_code 177 = .ok (.iconst 1, 1) := by decide +kernel
theorem d_Md_add_178 : decode prog_12_method_37_code 178 = .ok (.iadd, 1) := by decide +kernel
theorem d_Md_add_179 : decode prog_12_method_37_code 179 = .ok (.putfield 202, 3) := by decide +kernel
theorem d_Md_add_182 : decode prog_12_method_37_code 182 = .ok (.return_, 1) := by decide +kernel
theorem d_Md_made_0 : decode prog_12_method_48_code 0 = .ok (.aload_n 0, 1) := by decide +kernel
theorem d_Md_made_1 : decode prog_12_method_48_code 1 = .ok (.getfield 202, 3) := by decide +kernel
theorem d_Md_made_4 : decode prog_12_method_48_code 4 = .ok (.aload_n 0, 1) := by decide +kernel
theorem d_Md_made_5 : decode prog_12_method_48_code 5 = .ok (.getfield 23, 3) := by decide +kernel
theorem d_Md_made_8 : decode prog_12_method_48_code 8 = .ok (.if_icmp .gt (7), 3) := by decide +kernel
theorem d_Md_made_11 : decode prog_12_method_48_code 11 = .ok (.iconst 1, 1) := by decide +kernel
theorem d_Md_made_12 : decode prog_12_method_48_code 12 = .ok (.goto (4), 3) := by decide +kernel
theorem d_Md_made_15 : decode prog_12_method_48_code 15 = .ok (.iconst 0, 1) := by decide +kernel
theorem d_Md_made_16 : decode prog_12_method_48_code 16 = .ok (.istore_n 1, 1) := by decide +kernel
theorem d_Md_made_17 : decode prog_12_method_48_code 17 = .ok (.iload_n 1, 1) := by decide +kernel
theorem d_Md_made_18 : decode prog_12_method_48_code 18 = .ok (.ifCond .eq (97), 3) := by decide +kernel
theorem d_Md_made_21 : decode prog_12_method_48_code 21 = .ok (.aload_n 0, 1) := by decide +kernel
theorem d_Md_made_22 : decode prog_12_method_48_code 22 = .ok (.getfield 202, 3) := by decide +kernel
theorem d_Md_made_25 : decode prog_12_method_48_code 25 = .ok (.aload_n 0, 1) := by decide +kernel
theorem d_Md_made_26 : decode prog_12_method_48_code 26 = .ok (.getfield 23, 3) := by decide +kernel
theorem d_Md_made_29 : decode prog_12_method_48_code 29 = .ok (.if_icmp .gt (86), 3) := by decide +kernel
theorem d_Md_made_32 : decode prog_12_method_48_code 32 = .ok (.aload_n 0, 1) := by decide +kernel
theorem d_Md_made_33 : decode prog_12_method_48_code 33 = .ok (.getfield 258, 3) := by decide +kernel
theorem d_Md_made_36 : decode prog_12_method_48_code 36 = .ok (.aload_n 0, 1) := by decide +kernel
theorem d_Md_made_37 : decode prog_12_method_48_code 37 = .ok (.getfield 26, 3) := by decide +kernel
theorem d_Md_made_40 : decode prog_12_method_48_code 40 = .ok (.if_icmp .ne (5), 3) := by decide +kernel
theorem d_Md_made_43 : decode prog_12_method_48_code 43 = .ok (.iconst 0, 1) := by decide +kernel
theorem d_Md_made_44 : decode prog_12_method_48_code 44 = .ok (.ireturn, 1) := by decide +kernel
theorem d_Md_made_45 : decode prog_12_method_48_code 45 = .ok (.aload_n 0, 1) := by decide +kernel
theorem d_Md_made_46 : decode prog_12_method_48_code 46 = .ok (.aload_n 0, 1) := by decide +kernel
theorem d_Md_made_47 : decode prog_12_method_48_code 47 = .ok (.getfield 202, 3) := by decide +kernel
theorem d_Md_made_50 : decode prog_12_method_48_code 50 = .ok (.putfield 233, 3) := by decide +kernel
theorem d_Md_made_53 : decode prog_12_method_48_code 53 = .ok (.iconst 0, 1) := by decide +kernel
theorem d_Md_made_54 : decode prog_12_method_48_code 54 = .ok (.istore_n 2, 1) := by decide +kernel
theorem d_Md_made_55 : decode prog_12_method_48_code 55 = .ok (.iload_n 2, 1) := by decide +kernel
theorem d_Md_made_56 : decode prog_12_method_48_code 56 = .ok (.aload_n 0, 1) := by decide +kernel
theorem d_Md_made_57 : decode prog_12_method_48_code 57 = .ok (.getfield 252, 3) := by decide +kernel
theorem d_Md_made_60 : decode prog_12_method_48_code 60 = .ok (.if_icmp .ge (25), 3) := by decide +kernel
theorem d_Md_made_63 : decode prog_12_method_48_code 63 = .ok (.aload_n 0, 1) := by decide +kernel
theorem d_Md_made_64 : decode prog_12_method_48_code 64 = .ok (.getfield 45, 3) := by decide +kernel
theorem d_Md_made_67 : decode prog_12_method_48_code 67 = .ok (.iload_n 2, 1) := by decide +kernel
theorem d_Md_made_68 : decode prog_12_method_48_code 68 = .ok (.iaload, 1) := by decide +kernel
theorem d_Md_made_69 : decode prog_12_method_48_code 69 = .ok (.iconst 1, 1) := by decide +kernel
theorem d_Md_made_70 : decode prog_12_method_48_code 70 = .ok (.if_icmp .ne (9), 3) := by decide +kernel
theorem d_Md_made_73 : decode prog_12_method_48_code 73 = .ok (.aload_n 0, 1) := by decide +kernel
theorem d_Md_made_74 : decode prog_12_method_48_code 74 = .ok (.iload_n 2, 1) := by decide +kernel
theorem d_Md_made_75 : decode prog_12_method_48_code 75 = .ok (.iconst 1, 1) := by decide +kernel
theorem d_Md_made_76 : decode prog_12_method_48_code 76 = .ok (.invokevirtual 261, 3) := by decide +kernel
theorem d_Md_made_79 : decode prog_12_method_48_code 79 = .ok (.iinc 2 (1), 3) := by decide +kernel
theorem d_Md_made_82 : decode prog_12_method_48_code 82 = .ok (.goto (-27), 3) := by decide +kernel
theorem d_Md_made_85 : decode prog_12_method_48_code 85 = .ok (.aload_n 0, 1) := by decide +kernel
theorem d_Md_made_86 : decode prog_12_method_48_code 86 = .ok (.dup, 1) := by decide +kernel
theorem d_Md_made_87 : decode prog_12_method_48_code 87 = .ok (.getfield 258, 3) := by decide +kernel
theorem d_Md_made_90 : decode prog_12_method_48_code 90 = .ok (.iconst 1, 1) := by decide +kernel
theorem d_Md_made_91 : decode prog_12_method_48_code 91 = .ok (.iadd, 1) := by decide +kernel
theorem d_Md_made_92 : decode prog_12_method_48_code 92 = .ok (.putfield 258, 3) := by decide +kernel
theorem d_Md_made_95 : decode prog_12_method_48_code 95 = .ok (.aload_n 0, 1) := by decide +kernel
theorem d_Md_made_96 : decode prog_12_method_48_code 96 = .ok (.getfield 202, 3) := by decide +kernel
theorem d_Md_made_99 : decode prog_12_method_48_code 99 = .ok (.aload_n 0, 1) := by decide +kernel
theorem d_Md_made_100 : decode prog_12_method_48_code 100 = .ok (.getfield 233, 3) := by decide +kernel
theorem d_Md_made_103 : decode prog_12_method_48_code 103 = .ok (.if_icmp .le (7), 3) := by decide +kernel
theorem d_Md_made_106 : decode prog_12_method_48_code 106 = .ok (.iconst 1, 1) := by decide +kernel
theorem d_Md_made_107 : decode prog_12_method_48_code 107 = .ok (.goto (4), 3) := by decide +kernel
theorem d_Md_made_110 : decode prog_12_method_48_code 110 = .ok (.iconst 0, 1) := by decide +kernel
theorem d_Md_made_111 : decode prog_12_method_48_code 111 = .ok (.istore_n 1, 1) := by decide +kernel
theorem d_Md_made_112 : decode prog_12_method_48_code 112 = .ok (.goto (-95), 3) := by decide +kernel
theorem d_Md_made_115 : decode prog_12_method_48_code 115 = .ok (.aload_n 0, 1) := by decide +kernel
theorem d_Md_made_116 : decode prog_12_method_48_code 116 = .ok (.aload_n 0, 1) := by decide +kernel
theorem d_Md_made_117 : decode prog_12_method_48_code 117 = .ok (.getfield 202, 3) := by decide +kernel
theorem d_Md_made_120 : decode prog_12_method_48_code 120 = .ok (.putfield 233, 3) := by decide +kernel
theorem d_Md_made_123 : decode prog_12_method_48_code 123 = .ok (.aload_n 0, 1) := by decide +kernel
theorem d_Md_made_124 : decode prog_12_method_48_code 124 = .ok (.getfield 202, 3) := by decide +kernel
theorem d_Md_made_127 : decode prog_12_method_48_code 127 = .ok (.aload_n 0, 1) := by decide +kernel
theorem d_Md_made_128 : decode prog_12_method_48_code 128 = .ok (.getfield 23, 3) := by decide +kernel
theorem d_Md_made_131 : decode prog_12_method_48_code 131 = .ok (.if_icmp .gt (7), 3) := by decide +kernel
theorem d_Md_made_134 : decode prog_12_method_48_code 134 = .ok (.iconst 1, 1) := by decide +kernel
theorem d_Md_made_135 : decode prog_12_method_48_code 135 = .ok (.goto (4), 3) := by decide +kernel
theorem d_Md_made_138 : decode prog_12_method_48_code 138 = .ok (.iconst 0, 1) := by decide +kernel
theorem d_Md_made_139 : decode prog_12_method_48_code 139 = .ok (.ireturn, 1) := by decide +kernel
theorem d_Md_bindings_0 : decode prog_12_method_44_code 0 = .ok (.aload_n 0, 1) := by decide +kernel
theorem d_Md_bindings_1 : decode prog_12_method_44_code 1 = .ok (.iconst 0, 1) := by decide +kernel
theorem d_Md_bindings_2 : decode prog_12_method_44_code 2 = .ok (.putfield 221, 3) := by decide +kernel
theorem d_Md_bindings_5 : decode prog_12_method_44_code 5 = .ok (.aload_n 0, 1) := by decide +kernel
theorem d_Md_bindings_6 : decode prog_12_method_44_code 6 = .ok (.iconst 0, 1) := by decide +kernel
theorem d_Md_bindings_7 : decode prog_12_method_44_code 7 = .ok (.putfield 224, 3) := by decide +kernel
theorem d_Md_bindings_10 : decode prog_12_method_44_code 10 = .ok (.aload_n 0, 1) := by decide +kernel
theorem d_Md_bindings_11 : decode prog_12_method_44_code 11 = .ok (.iconst 0, 1) := by decide +kernel
theorem d_Md_bindings_12 : decode prog_12_method_44_code 12 = .ok (.putfield 227, 3) := by decide +kernel
theorem d_Md_bindings_15 : decode prog_12_method_44_code 15 = .ok (.aload_n 0, 1) := by decide +kernel
theorem d_Md_bindings_16 : decode prog_12_method_44_code 16 = .ok (.iconst 1, 1) := by decide +kernel
theorem d_Md_bindings_17 : decode prog_12_method_44_code 17 = .ok (.putfield 230, 3) := by decide +kernel
theorem d_Md_bindings_20 : decode prog_12_method_44_code 20 = .ok (.aload_n 0, 1) := by decide +kernel
theorem d_Md_bindings_21 : decode prog_12_method_44_code 21 = .ok (.getfield 75, 3) := by decide +kernel
theorem d_Md_bindings_24 : decode prog_12_method_44_code 24 = .ok (.iconst 1, 1) := by decide +kernel
theorem d_Md_bindings_25 : decode prog_12_method_44_code 25 = .ok (.iconst 0, 1) := by decide +kernel
theorem d_Md_bindings_26 : decode prog_12_method_44_code 26 = .ok (.iastore, 1) := by decide +kernel
theorem d_Md_bindings_27 : decode prog_12_method_44_code 27 = .ok (.iconst 1, 1) := by decide +kernel
theorem d_Md_bindings_28 : decode prog_12_method_44_code 28 = .ok (.istore_n 3, 1) := by decide +kernel
theorem d_Md_bindings_29 : decode prog_12_method_44_code 29 = .ok (.aload_n 0, 1) := by decide +kernel
theorem d_Md_bindings_30 : decode prog_12_method_44_code 30 = .ok (.getfield 72, 3) := by decide +kernel
theorem d_Md_bindings_33 : decode prog_12_method_44_code 33 = .ok (.iconst 1, 1) := by decide +kernel
theorem d_Md_bindings_34 : decode prog_12_method_44_code 34 = .ok (.iconst (-1), 1) := by decide +kernel
theorem d_Md_bindings_35 : decode prog_12_method_44_code 35 = .ok (.iastore, 1) := by decide +kernel
theorem d_Md_bindings_36 : decode prog_12_method_44_code 36 = .ok (.iload_n 3, 1) := by decide +kernel
theorem d_Md_bindings_37 : decode prog_12_method_44_code 37 = .ok (.ifCond .le (79), 3) := by decide +kernel
theorem d_Md_bindings_40 : decode prog_12_method_44_code 40 = .ok (.aload_n 0, 1) := by decide +kernel
theorem d_Md_bindings_41 : decode prog_12_method_44_code 41 = .ok (.getfield 72, 3) := by decide +kernel
theorem d_Md_bindings_44 : decode prog_12_method_44_code 44 = .ok (.iload_n 3, 1) := by decide +kernel
theorem d_Md_bindings_45 : decode prog_12_method_44_code 45 = .ok (.dup2, 1) := by decide +kernel
theorem d_Md_bindings_46 : decode prog_12_method_44_code 46 = .ok (.iaload, 1) := by decide +kernel
theorem d_Md_bindings_47 : decode prog_12_method_44_code 47 = .ok (.iconst 1, 1) := by decide +kernel
theorem d_Md_bindings_48 : decode prog_12_method_44_code 48 = .ok (.iadd, 1) := by decide +kernel
theorem d_Md_bindings_49 : decode prog_12_method_44_code 49 = .ok (.iastore, 1) := by decide +kernel
theorem d_Md_bindings_50 : decode prog_12_method_44_code 50 = .ok (.aload_n 0, 1) := by decide +kernel
theorem d_Md_bindings_51 : decode prog_12_method_44_code 51 = .ok (.getfield 72, 3) := by decide +kernel
theorem d_Md_bindings_54 : decode prog_12_method_44_code 54 = .ok (.iload_n 3, 1) := by decide +kernel
theorem d_Md_bindings_55 : decode prog_12_method_44_code 55 = .ok (.iaload, 1) := by decide +kernel
theorem d_Md_bindings_56 : decode prog_12_method_44_code 56 = .ok (.aload_n 0, 1) := by decide +kernel
theorem d_Md_bindings_57 : decode prog_12_method_44_code 57 = .ok (.getfield 233, 3) := by decide +kernel
theorem d_Md_bindings_60 : decode prog_12_method_44_code 60 = .ok (.if_icmp .lt (9), 3) := by decide +kernel
theorem d_Md_bindings_63 : decode prog_12_method_44_code 63 = .ok (.iinc 3 (-1), 3) := by decide +kernel
theorem d_Md_bindings_66 : decode prog_12_method_44_code 66 = .ok (.goto (-30), 3) := by decide +kernel
theorem d_Md_bindings_69 : decode prog_12_method_44_code 69 = .ok (.aload_n 0, 1) := by decide +kernel
theorem d_Md_bindings_70 : decode prog_12_method_44_code 70 = .ok (.iload_n 1, 1) := by decide +kernel
theorem d_Md_bindings_71 : decode prog_12_method_44_code 71 = .ok (.iload_n 3, 1) := by decide +kernel
theorem d_Md_bindings_72 : decode prog_12_method_44_code 72 = .ok (.aload_n 0, 1) := by decide +kernel
theorem d_Md_bindings_73 : decode prog_12_method_44_code 73 = .ok (.getfield 72, 3) := by decide +kernel
theorem d_Md_bindings_76 : decode prog_12_method_44_code 76 = .ok (.iload_n 3, 1) := by decide +kernel
theorem d_Md_bindings_77 : decode prog_12_method_44_code 77 = .ok (.iaload, 1) := by decide +kernel
theorem d_Md_bindings_78 : decode prog_12_method_44_code 78 = .ok (.invokevirtual 236, 3) := by decide +kernel
theorem d_Md_bindings_81 : decode prog_12_method_44_code 81 = .ok (.ifCond .eq (-45), 3) := by decide +kernel
theorem d_Md_bindings_84 : decode prog_12_method_44_code 84 = .ok (.iload_n 3, 1) := by decide +kernel
theorem d_Md_bindings_85 : decode prog_12_method_44_code 85 = .ok (.aload_n 0, 1) := by decide +kernel
theorem d_Md_bindings_86 : decode prog_12_method_44_code 86 = .ok (.getfield 54, 3) := by decide +kernel
theorem d_Md_bindings_89 : decode prog_12_method_44_code 89 = .ok (.iload_n 1, 1) := by decide +kernel
theorem d_Md_bindings_90 : decode prog_12_method_44_code 90 = .ok (.iaload, 1) := by decide +kernel
theorem d_Md_bindings_91 : decode prog_12_method_44_code 91 = .ok (.if_icmp .ge (16), 3) := by decide +kernel
theorem d_Md_bindings_94 : decode prog_12_method_44_code 94 = .ok (.iinc 3 (1), 3) := by decide +kernel
theorem d_Md_bindings_97 : decode prog_12_method_44_code 97 = .ok (.aload_n 0, 1) := by decide +kernel
theorem d_Md_bindings_98 : decode prog_12_method_44_code 98 = .ok (.getfield 72, 3) := by decide +kernel
theorem d_Md_bindings_101 : decode prog_12_method_44_code 101 = .ok (.iload_n 3, 1) := by decide +kernel
theorem d_Md_bindings_102 : decode prog_12_method_44_code 102 = .ok (.iconst (-1), 1) := by decide +kernel
theorem d_Md_bindings_103 : decode prog_12_method_44_code 103 = .ok (.iastore, 1) := by decide +kernel
theorem d_Md_bindings_104 : decode prog_12_method_44_code 104 = .ok (.goto (-68), 3) := by decide +kernel
theorem d_Md_bindings_107 : decode prog_12_method_44_code 107 = .ok (.aload_n 0, 1) := by decide +kernel
theorem d_Md_bindings_108 : decode prog_12_method_44_code 108 = .ok (.iload_n 1, 1) := by decide +kernel
theorem d_Md_bindings_109 : decode prog_12_method_44_code 109 = .ok (.iload_n 2, 1) := by decide +kernel
theorem d_Md_bindings_110 : decode prog_12_method_44_code 110 = .ok (.invokevirtual 239, 3) := by decide +kernel
theorem d_Md_bindings_113 : decode prog_12_method_44_code 113 = .ok (.goto (-77), 3) := by decide +kernel
theorem d_Md_bindings_116 : decode prog_12_method_44_code 116 = .ok (.return_, 1) := by decide +kernel
theorem d_Md_fit_0 : decode prog_12_method_40_code 0 = .ok (.bipush (16), 2) := by decide +kernel
theorem d_Md_fit_2 : decode prog_12_method_40_code 2 = .ok (.iload_n 1, 1) := by decide +kernel
theorem d_Md_fit_3 : decode prog_12_method_40_code 3 = .ok (.imul, 1) := by decide +kernel
theorem d_Md_fit_4 : decode prog_12_method_40_code 4 = .ok (.iconst 4, 1) := by decide +kernel
theorem d_Md_fit_5 : decode prog_12_method_40_code 5 = .ok (.iload_n 2, 1) := by decide +kernel
theorem d_Md_fit_6 : decode prog_12_method_40_code 6 = .ok (.imul, 1) := by decide +kernel
theorem d_Md_fit_7 : decode prog_12_method_40_code 7 = .ok (.iadd, 1) := by decide +kernel
theorem d_Md_fit_8 : decode prog_12_method_40_code 8 = .ok (.istore 4, 2) := by decide +kernel
theorem d_Md_fit_10 : decode prog_12_method_40_code 10 = .ok (.aload_n 0, 1) := by decide +kernel
theorem d_Md_fit_11 : decode prog_12_method_40_code 11 = .ok (.getfield 75, 3) := by decide +kernel
theorem d_Md_fit_14 : decode prog_12_method_40_code 14 = .ok (.iload_n 2, 1) := by decide +kernel
theorem d_Md_fit_15 : decode prog_12_method_40_code 15 = .ok (.iconst 1, 1) := by decide +kernel
theorem d_Md_fit_16 : decode prog_12_method_40_code 16 = .ok (.iadd, 1) := by decide +kernel
theorem d_Md_fit_17 : decode prog_12_method_40_code 17 = .ok (.aload_n 0, 1) := by decide +kernel
theorem d_Md_fit_18 : decode prog_12_method_40_code 18 = .ok (.getfield 75, 3) := by decide +kernel
theorem d_Md_fit_21 : decode prog_12_method_40_code 21 = .ok (.iload_n 2, 1) := by decide +kernel
theorem d_Md_fit_22 : decode prog_12_method_40_code 22 = .ok (.iaload, 1) := by decide +kernel
theorem d_Md_fit_23 : decode prog_12_method_40_code 23 = .ok (.iastore, 1) := by decide +kernel
theorem d_Md_fit_24 : decode prog_12_method_40_code 24 = .ok (.aload_n 0, 1) := by decide +kernel
theorem d_Md_fit_25 : decode prog_12_method_40_code 25 = .ok (.getfield 69, 3) := by decide +kernel
theorem d_Md_fit_28 : decode prog_12_method_40_code 28 = .ok (.iconst 5, 1) := by decide +kernel
theorem d_Md_fit_29 : decode prog_12_method_40_code 29 = .ok (.iload_n 3, 1) := by decide +kernel
theorem d_Md_fit_30 : decode prog_12_method_40_code 30 = .ok (.imul, 1) := by decide +kernel
theorem d_Md_fit_31 : decode prog_12_method_40_code 31 = .ok (.iaload, 1) := by decide +kernel
theorem d_Md_fit_32 : decode prog_12_method_40_code 32 = .ok (.aload_n 0, 1) := by decide +kernel
theorem d_Md_fit_33 : decode prog_12_method_40_code 33 = .ok (.getfield 57, 3) := by decide +kernel
theorem d_Md_fit_36 : decode prog_12_method_40_code 36 = .ok (.iload 4, 2) := by decide +kernel
theorem d_Md_fit_38 : decode prog_12_method_40_code 38 = .ok (.iaload, 1) := by decide +kernel
theorem d_Md_fit_39 : decode prog_12_method_40_code 39 = .ok (.if_icmp .ne (46), 3) := by decide +kernel
theorem d_Md_fit_42 : decode prog_12_method_40_code 42 = .ok (.aload_n 0, 1) := by decide +kernel
theorem d_Md_fit_43 : decode prog_12_method_40_code 43 = .ok (.getfield 69, 3) := by decide +kernel
theorem d_Md_fit_46 : decode prog_12_method_40_code 46 = .ok (.iconst 5, 1) := by decide +kernel
theorem d_Md_fit_47 : decode prog_12_method_40_code 47 = .ok (.iload_n 3, 1) := by decide +kernel
theorem d_Md_fit_48 : decode prog_12_method_40_code 48 = .ok (.imul, 1) := by decide +kernel
theorem d_Md_fit_49 : decode prog_12_method_40_code 49 = .ok (.iconst 1, 1) := by decide +kernel
theorem d_Md_fit_50 : decode prog_12_method_40_code 50 = .ok (.iadd, 1) := by decide +kernel
theorem d_Md_fit_51 : decode prog_12_method_40_code 51 = .ok (.iaload, 1) := by decide +kernel
theorem d_Md_fit_52 : decode prog_12_method_40_code 52 = .ok (.aload_n 0, 1) := by decide +kernel
theorem d_Md_fit_53 : decode prog_12_method_40_code 53 = .ok (.getfield 57, 3) := by decide +kernel
theorem d_Md_fit_56 : decode prog_12_method_40_code 56 = .ok (.iload 4, 2) := by decide +kernel
theorem d_Md_fit_58 : decode prog_12_method_40_code 58 = .ok (.iconst 1, 1) := by decide +kernel
theorem d_Md_fit_59 : decode prog_12_method_40_code 59 = .ok (.iadd, 1) := by decide +kernel
theorem d_Md_fit_60 : decode prog_12_method_40_code 60 = .ok (.iaload, 1) := by decide +kernel
theorem d_Md_fit_61 : decode prog_12_method_40_code 61 = .ok (.if_icmp .ne (24), 3) := by decide +kernel
theorem d_Md_fit_64 : decode prog_12_method_40_code 64 = .ok (.aload_n 0, 1) := by decide +kernel
theorem d_Md_fit_65 : decode prog_12_method_40_code 65 = .ok (.getfield 69, 3) := by decide +kernel
theorem d_Md_fit_68 : decode prog_12_method_40_code 68 = .ok (.iconst 5, 1) := by decide +kernel
theorem d_Md_fit_69 : decode prog_12_method_40_code 69 = .ok (.iload_n 3, 1) := by decide +kernel
theorem d_Md_fit_70 : decode prog_12_method_40_code 70 = .ok (.imul, 1) := by decide +kernel
theorem d_Md_fit_71 : decode prog_12_method_40_code 71 = .ok (.iconst 4, 1) := by decide +kernel
theorem d_Md_fit_72 : decode prog_12_method_40_code 72 = .ok (.iadd, 1) := by decide +kernel
theorem d_Md_fit_73 : decode prog_12_method_40_code 73 = .ok (.iaload, 1) := by decide +kernel
theorem d_Md_fit_74 : decode prog_12_method_40_code 74 = .ok (.aload_n 0, 1) := by decide +kernel
theorem d_Md_fit_75 : decode prog_12_method_40_code 75 = .ok (.iload_n 1, 1) := by decide +kernel
theorem d_Md_fit_76 : decode prog_12_method_40_code 76 = .ok (.invokevirtual 205, 3) := by decide +kernel
theorem d_Md_fit_79 : decode prog_12_method_40_code 79 = .ok (.iconst (-1), 1) := by decide +kernel
theorem d_Md_fit_80 : decode prog_12_method_40_code 80 = .ok (.ixor, 1) := by decide +kernel
theorem d_Md_fit_81 : decode prog_12_method_40_code 81 = .ok (.iand, 1) := by decide +kernel
theorem d_Md_fit_82 : decode prog_12_method_40_code 82 = .ok (.ifCond .eq (5), 3) := by decide +kernel
theorem d_Md_fit_85 : decode prog_12_method_40_code 85 = .ok (.iconst 0, 1) := by decide +kernel
theorem d_Md_fit_86 : decode prog_12_method_40_code 86 = .ok (.ireturn, 1) := by decide +kernel
theorem d_Md_fit_87 : decode prog_12_method_40_code 87 = .ok (.iconst 0, 1) := by decide +kernel
theorem d_Md_fit_88 : decode prog_12_method_40_code 88 = .ok (.istore 5, 2) := by decide +kernel
theorem d_Md_fit_90 : decode prog_12_method_40_code 90 = .ok (.iload 5, 2) := by decide +kernel
theorem d_Md_fit_92 : decode prog_12_method_40_code 92 = .ok (.aload_n 0, 1) := by decide +kernel
theorem d_Md_fit_93 : decode prog_12_method_40_code 93 = .ok (.getfield 57, 3) := by decide +kernel
theorem d_Md_fit_96 : decode prog_12_method_40_code 96 = .ok (.iload 4, 2) := by decide +kernel
theorem d_Md_fit_98 : decode prog_12_method_40_code 98 = .ok (.iconst 1, 1) := by decide +kernel
theorem d_Md_fit_99 : decode prog_12_method_40_code 99 = .ok (.iadd, 1) := by decide +kernel
theorem d_Md_fit_100 : decode prog_12_method_40_code 100 = .ok (.iaload, 1) := by decide +kernel
theorem d_Md_fit_101 : decode prog_12_method_40_code 101 = .ok (.if_icmp .ge (127), 3) := by decide +kernel
theorem d_Md_fit_104 : decode prog_12_method_40_code 104 = .ok (.aload_n 0, 1) := by decide +kernel
theorem d_Md_fit_105 : decode prog_12_method_40_code 105 = .ok (.getfield 57, 3) := by decide +kernel
theorem d_Md_fit_108 : decode prog_12_method_40_code 108 = .ok (.iload 4, 2) := by decide +kernel
theorem d_Md_fit_110 : decode prog_12_method_40_code 110 = .ok (.iconst 2, 1) := by decide +kernel
theorem d_Md_fit_111 : decode prog_12_method_40_code 111 = .ok (.iadd, 1) := by decide +kernel
theorem d_Md_fit_112 : decode prog_12_method_40_code 112 = .ok (.iload 5, 2) := by decide +kernel
theorem d_Md_fit_114 : decode prog_12_method_40_code 114 = .ok (.iadd, 1) := by decide +kernel
theorem d_Md_fit_115 : decode prog_12_method_40_code 115 = .ok (.iaload, 1) := by decide +kernel
theorem d_Md_fit_116 : decode prog_12_method_40_code 116 = .ok (.istore 6, 2) := by decide +kernel
theorem d_Md_fit_118 : decode prog_12_method_40_code 118 = .ok (.aload_n 0, 1) := by decide +kernel
theorem d_Md_fit_119 : decode prog_12_method_40_code 119 = .ok (.getfield 69, 3) := by decide +kernel
theorem d_Md_fit_122 : decode prog_12_method_40_code 122 = .ok (.iconst 5, 1) := by decide +kernel
theorem d_Md_fit_123 : decode prog_12_method_40_code 123 = .ok (.iload_n 3, 1) := by decide +kernel
theorem d_Md_fit_124 : decode prog_12_method_40_code 124 = .ok (.imul, 1) := by decide +kernel
theorem d_Md_fit_125 : decode prog_12_method_40_code 125 = .ok (.iconst 2, 1) := by decide +kernel
theorem d_Md_fit_126 : decode prog_12_method_40_code 126 = .ok (.iadd, 1) := by decide +kernel
theorem d_Md_fit_127 : decode prog_12_method_40_code 127 = .ok (.iload 5, 2) := by decide +kernel
theorem d_Md_fit_129 : decode prog_12_method_40_code 129 = .ok (.iadd, 1) := by decide +kernel
theorem d_Md_fit_130 : decode prog_12_method_40_code 130 = .ok (.iaload, 1) := by decide +kernel
theorem d_Md_fit_131 : decode prog_12_method_40_code 131 = .ok (.istore 7, 2) := by decide +kernel
theorem d_Md_fit_133 : decode prog_12_method_40_code 133 = .ok (.iload 6, 2) := by decide +kernel
theorem d_Md_fit_135 : decode prog_12_method_40_code 135 = .ok (.ldc 137, 2) := by decide +kernel
theorem d_Md_fit_137 : decode prog_12_method_40_code 137 = .ok (.if_icmp .ge (16), 3) := by decide +kernel
theorem d_Md_fit_140 : decode prog_12_method_40_code 140 = .ok (.iload 6, 2) := by decide +kernel
theorem d_Md_fit_142 : decode prog_12_method_40_code 142 = .ok (.sipush (10000), 3) := by decide +kernel
theorem d_Md_fit_145 : decode prog_12_method_40_code 145 = .ok (.isub, 1) := by decide +kernel
theorem d_Md_fit_146 : decode prog_12_method_40_code 146 = .ok (.iload 7, 2) := by decide +kernel
theorem d_Md_fit_148 : decode prog_12_method_40_code 148 = .ok (.if_icmp .eq (74), 3) := by decide +kernel
theorem d_Md_fit_151 : decode prog_12_method_40_code 151 = .ok (.iconst 0, 1) := by decide +kernel
theorem d_Md_fit_152 : decode prog_12_method_40_code 152 = .ok (.ireturn, 1) := by decide +kernel
theorem d_Md_fit_153 : decode prog_12_method_40_code 153 = .ok (.aload_n 0, 1) := by decide +kernel
theorem d_Md_fit_154 : decode prog_12_method_40_code 154 = .ok (.getfield 75, 3) := by decide +kernel
theorem d_Md_fit_157 : decode prog_12_method_40_code 157 = .ok (.iload_n 2, 1) := by decide +kernel
theorem d_Md_fit_158 : decode prog_12_method_40_code 158 = .ok (.iconst 1, 1) := by decide +kernel
theorem d_Md_fit_159 : decode prog_12_method_40_code 159 = .ok (.iadd, 1) := by decide +kernel
theorem d_Md_fit_160 : decode prog_12_method_40_code 160 = .ok (.iaload, 1) := by decide +kernel
theorem d_Md_fit_161 : decode prog_12_method_40_code 161 = .ok (.iload 6, 2) := by decide +kernel
theorem d_Md_fit_163 : decode prog_12_method_40_code 163 = .ok (.ldc 137, 2) := by decide +kernel
theorem d_Md_fit_165 : decode prog_12_method_40_code 165 = .ok (.isub, 1) := by decide +kernel
theorem d_Md_fit_166 : decode prog_12_method_40_code 166 = .ok (.ishr, 1) := by decide +kernel
theorem d_Md_fit_167 : decode prog_12_method_40_code 167 = .ok (.iconst 1, 1) := by decide +kernel
theorem d_Md_fit_168 : decode prog_12_method_40_code 168 = .ok (.iand, 1) := by decide +kernel
theorem d_Md_fit_169 : decode prog_12_method_40_code 169 = .ok (.ifCond .ne (36), 3) := by decide +kernel
theorem d_Md_fit_172 : decode prog_12_method_40_code 172 = .ok (.aload_n 0, 1) := by decide +kernel
theorem d_Md_fit_173 : decode prog_12_method_40_code 173 = .ok (.getfield 75, 3) := by decide +kernel
theorem d_Md_fit_176 : decode prog_12_method_40_code 176 = .ok (.iload_n 2, 1) := by decide +kernel
theorem d_Md_fit_177 : decode prog_12_method_40_code 177 = .ok (.iconst 1, 1) := by decide +kernel
theorem d_Md_fit_178 : decode prog_12_method_40_code 178 = .ok (.iadd, 1) := by decide +kernel
theorem d_Md_fit_179 : decode prog_12_method_40_code 179 = .ok (.dup2, 1) := by decide +kernel
theorem d_Md_fit_180 : decode prog_12_method_40_code 180 = .ok (.iaload, 1) := by decide +kernel
theorem d_Md_fit_181 : decode prog_12_method_40_code 181 = .ok (.iconst 1, 1) := by decide +kernel
theorem d_Md_fit_182 : decode prog_12_method_40_code 182 = .ok (.iload 6, 2) := by decide +kernel
theorem d_Md_fit_184 : decode prog_12_method_40_code 184 = .ok (.ldc 137, 2) := by decide +kernel
theorem d_Md_fit_186 : decode prog_12_method_40_code 186 = .ok (.isub, 1) := by decide +kernel
theorem d_Md_fit_187 : decode prog_12_method_40_code 187 = .ok (.ishl, 1) := by decide +kernel
theorem d_Md_fit_188 : decode prog_12_method_40_code 188 = .ok (.ior, 1) := by decide +kernel
theorem d_Md_fit_189 : decode prog_12_method_40_code 189 = .ok (.iastore, 1) := by decide +kernel
theorem d_Md_fit_190 : decode prog_12_method_40_code 190 = .ok (.aload_n 0, 1) := by decide +kernel
theorem d_Md_fit_191 : decode prog_12_method_40_code 191 = .ok (.getfield 78, 3) := by decide +kernel
theorem d_Md_fit_194 : decode prog_12_method_40_code 194 = .ok (.iload 6, 2) := by decide +kernel
theorem d_Md_fit_196 : decode prog_12_method_40_code 196 = .ok (.ldc 137, 2) := by decide +kernel
theorem d_Md_fit_198 : decode prog_12_method_40_code 198 = .ok (.isub, 1) := by decide +kernel
theorem d_Md_fit_199 : decode prog_12_method_40_code 199 = .ok (.iload 7, 2) := by decide +kernel
theorem d_Md_fit_201 : decode prog_12_method_40_code 201 = .ok (.iastore, 1) := by decide +kernel
theorem d_Md_fit_202 : decode prog_12_method_40_code 202 = .ok (.goto (20), 3) := by decide +kernel
theorem d_Md_fit_205 : decode prog_12_method_40_code 205 = .ok (.aload_n 0, 1) := by decide +kernel
theorem d_Md_fit_206 : decode prog_12_method_40_code 206 = .ok (.getfield 78, 3) := by decide +kernel
theorem d_Md_fit_209 : decode prog_12_method_40_code 209 = .ok (.iload 6, 2) := by decide +kernel
theorem d_Md_fit_211 : decode prog_12_method_40_code 211 = .ok (.ldc 137, 2) := by decide +kernel
theorem d_Md_fit_213 : decode prog_12_method_40_code 213 = .ok (.isub, 1) := by decide +kernel
theorem d_Md_fit_214 : decode prog_12_method_40_code 214 = .ok (.iaload, 1) := by decide +kernel
theorem d_Md_fit_215 : decode prog_12_method_40_code 215 = .ok (.iload 7, 2) := by decide +kernel
theorem d_Md_fit_217 : decode prog_12_method_40_code 217 = .ok (.if_icmp .eq (5), 3) := by decide +kernel
theorem d_Md_fit_220 : decode prog_12_method_40_code 220 = .ok (.iconst 0, 1) := by decide +kernel
theorem d_Md_fit_221 : decode prog_12_method_40_code 221 = .ok (.ireturn, 1) := by decide +kernel
theorem d_Md_fit_222 : decode prog_12_method_40_code 222 = .ok (.iinc 5 (1), 3) := by decide +kernel
theorem d_Md_fit_225 : decode prog_12_method_40_code 225 = .ok (.goto (-135), 3) := by decide +kernel
theorem d_Md_fit_228 : decode prog_12_method_40_code 228 = .ok (.iconst 1, 1) := by decide +kernel
theorem d_Md_fit_229 : decode prog_12_method_40_code 229 = .ok (.ireturn, 1) := by decide +kernel
theorem d_Md_trusted_0 : decode prog_12_method_39_code 0 = .ok (.aload_n 0, 1) := by decide +kernel
theorem d_Md_trusted_1 : decode prog_12_method_39_code 1 = .ok (.getfield 48, 3) := by decide +kernel
theorem d_Md_trusted_4 : decode prog_12_method_39_code 4 = .ok (.iload_n 1, 1) := by decide +kernel
theorem d_Md_trusted_5 : decode prog_12_method_39_code 5 = .ok (.iaload, 1) := by decide +kernel
theorem d_Md_trusted_6 : decode prog_12_method_39_code 6 = .ok (.istore_n 2, 1) := by decide +kernel
theorem d_Md_trusted_7 : decode prog_12_method_39_code 7 = .ok (.bipush (17), 2) := by decide +kernel
theorem d_Md_trusted_9 : decode prog_12_method_39_code 9 = .ok (.iconst 1, 1) := by decide +kernel
theorem d_Md_trusted_10 : decode prog_12_method_39_code 10 = .ok (.iload_n 2, 1) := by decide +kernel
theorem d_Md_trusted_11 : decode prog_12_method_39_code 11 = .ok (.ishl, 1) := by decide +kernel
theorem d_Md_trusted_12 : decode prog_12_method_39_code 12 = .ok (.ior, 1) := by decide +kernel
theorem d_Md_trusted_13 : decode prog_12_method_39_code 13 = .ok (.aload_n 0, 1) := by decide +kernel
theorem d_Md_trusted_14 : decode prog_12_method_39_code 14 = .ok (.getfield 51, 3) := by decide +kernel
theorem d_Md_trusted_17 : decode prog_12_method_39_code 17 = .ok (.iload_n 1, 1) := by decide +kernel
theorem d_Md_trusted_18 : decode prog_12_method_39_code 18 = .ok (.baload, 1) := by decide +kernel
theorem d_Md_trusted_19 : decode prog_12_method_39_code 19 = .ok (.ifCond .eq (11), 3) := by decide +kernel
theorem d_Md_trusted_22 : decode prog_12_method_39_code 22 = .ok (.iconst 1, 1) := by decide +kernel
theorem d_Md_trusted_23 : decode prog_12_method_39_code 23 = .ok (.iload_n 2, 1) := by decide +kernel
theorem d_Md_trusted_24 : decode prog_12_method_39_code 24 = .ok (.ishl, 1) := by decide +kernel
theorem d_Md_trusted_25 : decode prog_12_method_39_code 25 = .ok (.iconst 1, 1) := by decide +kernel
theorem d_Md_trusted_26 : decode prog_12_method_39_code 26 = .ok (.isub, 1) := by decide +kernel
theorem d_Md_trusted_27 : decode prog_12_method_39_code 27 = .ok (.goto (4), 3) := by decide +kernel
theorem d_Md_trusted_30 : decode prog_12_method_39_code 30 = .ok (.iconst 0, 1) := by decide +kernel
theorem d_Md_trusted_31 : decode prog_12_method_39_code 31 = .ok (.ior, 1) := by decide +kernel
theorem d_Md_trusted_32 : decode prog_12_method_39_code 32 = .ok (.ireturn, 1) := by decide +kernel
