theorem d_Md_count_0 : decode prog_12_method_55_code 0 = .ok (.aload_n 0, 1) := by decide +kernel
theorem d_Md_count_1 : decode prog_12_method_55_code 1 = .ok (.iconst 0, 1) := by decide +kernel
theorem d_Md_count_2 : decode prog_12_method_55_code 2 = .ok (.putfield 84, 3) := by decide +kernel
theorem d_Md_count_5 : decode prog_12_method_55_code 5 = .ok (.iload_n 1, 1) := by decide +kernel
theorem d_Md_count_6 : decode prog_12_method_55_code 6 = .ok (.iconst 3, 1) := by decide +kernel
theorem d_Md_count_7 : decode prog_12_method_55_code 7 = .ok (.if_icmp .ge (40), 3) := by decide +kernel
theorem d_Md_count_10 : decode prog_12_method_55_code 10 = .ok (.iload_n 1, 1) := by decide +kernel
theorem d_Md_count_11 : decode prog_12_method_55_code 11 = .ok (.ifCond .ne (10), 3) := by decide +kernel
theorem d_Md_count_14 : decode prog_12_method_55_code 14 = .ok (.aload_n 0, 1) := by decide +kernel
theorem d_Md_count_15 : decode prog_12_method_55_code 15 = .ok (.getfield 178, 3) := by decide +kernel
theorem d_Md_count_18 : decode prog_12_method_55_code 18 = .ok (.goto (28), 3) := by decide +kernel
theorem d_Md_count_21 : decode prog_12_method_55_code 21 = .ok (.iload_n 1, 1) := by decide +kernel
theorem d_Md_count_22 : decode prog_12_method_55_code 22 = .ok (.iconst 1, 1) := by decide +kernel
theorem d_Md_count_23 : decode prog_12_method_55_code 23 = .ok (.if_icmp .ne (10), 3) := by decide +kernel
theorem d_Md_count_26 : decode prog_12_method_55_code 26 = .ok (.aload_n 0, 1) := by decide +kernel
theorem d_Md_count_27 : decode prog_12_method_55_code 27 = .ok (.getfield 175, 3) := by decide +kernel
theorem d_Md_count_30 : decode prog_12_method_55_code 30 = .ok (.goto (16), 3) := by decide +kernel
theorem d_Md_count_33 : decode prog_12_method_55_code 33 = .ok (.iload_n 1, 1) := by decide +kernel
theorem d_Md_count_34 : decode prog_12_method_55_code 34 = .ok (.iconst 2, 1) := by decide +kernel
theorem d_Md_count_35 : decode prog_12_method_55_code 35 = .ok (.if_icmp .ne (10), 3) := by decide +kernel
theorem d_Md_count_38 : decode prog_12_method_55_code 38 = .ok (.aload_n 0, 1) := by decide +kernel
theorem d_Md_count_39 : decode prog_12_method_55_code 39 = .ok (.getfield 19, 3) := by decide +kernel
theorem d_Md_count_42 : decode prog_12_method_55_code 42 = .ok (.goto (4), 3) := by decide +kernel
theorem d_Md_count_45 : decode prog_12_method_55_code 45 = .ok (.iconst (-1), 1) := by decide +kernel
theorem d_Md_count_46 : decode prog_12_method_55_code 46 = .ok (.ireturn, 1) := by decide +kernel
theorem d_Md_count_47 : decode prog_12_method_55_code 47 = .ok (.iload_n 1, 1) := by decide +kernel
theorem d_Md_count_48 : decode prog_12_method_55_code 48 = .ok (.iconst 3, 1) := by decide +kernel
theorem d_Md_count_49 : decode prog_12_method_55_code 49 = .ok (.if_icmp .ne (12), 3) := by decide +kernel
theorem d_Md_count_52 : decode prog_12_method_55_code 52 = .ok (.aload_n 0, 1) := by decide +kernel
theorem d_Md_count_53 : decode prog_12_method_55_code 53 = .ok (.getfield 16, 3) := by decide +kernel
theorem d_Md_count_56 : decode prog_12_method_55_code 56 = .ok (.iconst 0, 1) := by decide +kernel
theorem d_Md_count_57 : decode prog_12_method_55_code 57 = .ok (.iaload, 1) := by decide +kernel
theorem d_Md_count_58 : decode prog_12_method_55_code 58 = .ok (.goto (31), 3) := by decide +kernel
theorem d_Md_count_61 : decode prog_12_method_55_code 61 = .ok (.iload_n 1, 1) := by decide +kernel
theorem d_Md_count_62 : decode prog_12_method_55_code 62 = .ok (.iconst 4, 1) := by decide +kernel
theorem d_Md_count_63 : decode prog_12_method_55_code 63 = .ok (.if_icmp .ne (10), 3) := by decide +kernel
theorem d_Md_count_66 : decode prog_12_method_55_code 66 = .ok (.aload_n 0, 1) := by decide +kernel
theorem d_Md_count_67 : decode prog_12_method_55_code 67 = .ok (.getfield 172, 3) := by decide +kernel
theorem d_Md_count_70 : decode prog_12_method_55_code 70 = .ok (.goto (19), 3) := by decide +kernel
theorem d_Md_count_73 : decode prog_12_method_55_code 73 = .ok (.iload_n 1, 1) := by decide +kernel
theorem d_Md_count_74 : decode prog_12_method_55_code 74 = .ok (.iconst 5, 1) := by decide +kernel
theorem d_Md_count_75 : decode prog_12_method_55_code 75 = .ok (.if_icmp .ne (13), 3) := by decide +kernel
theorem d_Md_count_78 : decode prog_12_method_55_code 78 = .ok (.aload_n 0, 1) := by decide +kernel
theorem d_Md_count_79 : decode prog_12_method_55_code 79 = .ok (.getfield 13, 3) := by decide +kernel
theorem d_Md_count_82 : decode prog_12_method_55_code 82 = .ok (.bipush (95), 2) := by decide +kernel
theorem d_Md_count_84 : decode prog_12_method_55_code 84 = .ok (.iaload, 1) := by decide +kernel
theorem d_Md_count_85 : decode prog_12_method_55_code 85 = .ok (.goto (4), 3) := by decide +kernel
theorem d_Md_count_88 : decode prog_12_method_55_code 88 = .ok (.iconst (-1), 1) := by decide +kernel
theorem d_Md_count_89 : decode prog_12_method_55_code 89 = .ok (.ireturn, 1) := by decide +kernel
