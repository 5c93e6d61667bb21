-- DECODE rows, laid by program
theorem d_K_init_0 : decode prog_7_method_1_code 0 = .ok (.aload_n 0, 1) := by decide +kernel
theorem d_K_init_1 : decode prog_7_method_1_code 1 = .ok (.invokespecial 1, 3) := by decide +kernel
theorem d_K_init_4 : decode prog_7_method_1_code 4 = .ok (.aload_n 0, 1) := by decide +kernel
theorem d_K_init_5 : decode prog_7_method_1_code 5 = .ok (.bipush 10, 2) := by decide +kernel
theorem d_K_init_7 : decode prog_7_method_1_code 7 = .ok (.newarray .int, 2) := by decide +kernel
theorem d_K_init_9 : decode prog_7_method_1_code 9 = .ok (.putfield 7, 3) := by decide +kernel
theorem d_K_init_12 : decode prog_7_method_1_code 12 = .ok (.aload_n 0, 1) := by decide +kernel
theorem d_K_init_13 : decode prog_7_method_1_code 13 = .ok (.bipush 60, 2) := by decide +kernel
theorem d_K_init_15 : decode prog_7_method_1_code 15 = .ok (.newarray .int, 2) := by decide +kernel
theorem d_K_init_17 : decode prog_7_method_1_code 17 = .ok (.putfield 13, 3) := by decide +kernel
theorem d_K_init_20 : decode prog_7_method_1_code 20 = .ok (.aload_n 0, 1) := by decide +kernel
theorem d_K_init_21 : decode prog_7_method_1_code 21 = .ok (.sipush 640, 3) := by decide +kernel
theorem d_K_init_24 : decode prog_7_method_1_code 24 = .ok (.newarray .int, 2) := by decide +kernel
theorem d_K_init_26 : decode prog_7_method_1_code 26 = .ok (.putfield 16, 3) := by decide +kernel
theorem d_K_init_29 : decode prog_7_method_1_code 29 = .ok (.aload_n 0, 1) := by decide +kernel
theorem d_K_init_30 : decode prog_7_method_1_code 30 = .ok (.sipush 640, 3) := by decide +kernel
theorem d_K_init_33 : decode prog_7_method_1_code 33 = .ok (.newarray .int, 2) := by decide +kernel
theorem d_K_init_35 : decode prog_7_method_1_code 35 = .ok (.putfield 19, 3) := by decide +kernel
theorem d_K_init_38 : decode prog_7_method_1_code 38 = .ok (.aload_n 0, 1) := by decide +kernel
theorem d_K_init_39 : decode prog_7_method_1_code 39 = .ok (.bipush 10, 2) := by decide +kernel
theorem d_K_init_41 : decode prog_7_method_1_code 41 = .ok (.newarray .int, 2) := by decide +kernel
theorem d_K_init_43 : decode prog_7_method_1_code 43 = .ok (.putfield 22, 3) := by decide +kernel
theorem d_K_init_46 : decode prog_7_method_1_code 46 = .ok (.aload_n 0, 1) := by decide +kernel
theorem d_K_init_47 : decode prog_7_method_1_code 47 = .ok (.sipush 1024, 3) := by decide +kernel
theorem d_K_init_50 : decode prog_7_method_1_code 50 = .ok (.newarray .int, 2) := by decide +kernel
theorem d_K_init_52 : decode prog_7_method_1_code 52 = .ok (.putfield 25, 3) := by decide +kernel
theorem d_K_init_55 : decode prog_7_method_1_code 55 = .ok (.aload_n 0, 1) := by decide +kernel
theorem d_K_init_56 : decode prog_7_method_1_code 56 = .ok (.sipush 1024, 3) := by decide +kernel
theorem d_K_init_59 : decode prog_7_method_1_code 59 = .ok (.newarray .int, 2) := by decide +kernel
theorem d_K_init_61 : decode prog_7_method_1_code 61 = .ok (.putfield 28, 3) := by decide +kernel
theorem d_K_init_64 : decode prog_7_method_1_code 64 = .ok (.aload_n 0, 1) := by decide +kernel
theorem d_K_init_65 : decode prog_7_method_1_code 65 = .ok (.sipush 1024, 3) := by decide +kernel
theorem d_K_init_68 : decode prog_7_method_1_code 68 = .ok (.newarray .int, 2) := by decide +kernel
theorem d_K_init_70 : decode prog_7_method_1_code 70 = .ok (.putfield 31, 3) := by decide +kernel
theorem d_K_init_73 : decode prog_7_method_1_code 73 = .ok (.aload_n 0, 1) := by decide +kernel
theorem d_K_init_74 : decode prog_7_method_1_code 74 = .ok (.bipush 10, 2) := by decide +kernel
theorem d_K_init_76 : decode prog_7_method_1_code 76 = .ok (.newarray .int, 2) := by decide +kernel
theorem d_K_init_78 : decode prog_7_method_1_code 78 = .ok (.putfield 34, 3) := by decide +kernel
theorem d_K_init_81 : decode prog_7_method_1_code 81 = .ok (.aload_n 0, 1) := by decide +kernel
theorem d_K_init_82 : decode prog_7_method_1_code 82 = .ok (.bipush 20, 2) := by decide +kernel
theorem d_K_init_84 : decode prog_7_method_1_code 84 = .ok (.newarray .int, 2) := by decide +kernel
theorem d_K_init_86 : decode prog_7_method_1_code 86 = .ok (.putfield 37, 3) := by decide +kernel
theorem d_K_init_89 : decode prog_7_method_1_code 89 = .ok (.aload_n 0, 1) := by decide +kernel
theorem d_K_init_90 : decode prog_7_method_1_code 90 = .ok (.bipush 20, 2) := by decide +kernel
theorem d_K_init_92 : decode prog_7_method_1_code 92 = .ok (.newarray .int, 2) := by decide +kernel
theorem d_K_init_94 : decode prog_7_method_1_code 94 = .ok (.putfield 40, 3) := by decide +kernel
theorem d_K_init_97 : decode prog_7_method_1_code 97 = .ok (.aload_n 0, 1) := by decide +kernel
theorem d_K_init_98 : decode prog_7_method_1_code 98 = .ok (.bipush 20, 2) := by decide +kernel
theorem d_K_init_100 : decode prog_7_method_1_code 100 = .ok (.newarray .boolean, 2) := by decide +kernel
theorem d_K_init_102 : decode prog_7_method_1_code 102 = .ok (.putfield 43, 3) := by decide +kernel
theorem d_K_init_105 : decode prog_7_method_1_code 105 = .ok (.aload_n 0, 1) := by decide +kernel
theorem d_K_init_106 : decode prog_7_method_1_code 106 = .ok (.bipush 10, 2) := by decide +kernel
theorem d_K_init_108 : decode prog_7_method_1_code 108 = .ok (.newarray .int, 2) := by decide +kernel
theorem d_K_init_110 : decode prog_7_method_1_code 110 = .ok (.putfield 47, 3) := by decide +kernel
theorem d_K_init_113 : decode prog_7_method_1_code 113 = .ok (.aload_n 0, 1) := by decide +kernel
theorem d_K_init_114 : decode prog_7_method_1_code 114 = .ok (.bipush 10, 2) := by decide +kernel
theorem d_K_init_116 : decode prog_7_method_1_code 116 = .ok (.newarray .int, 2) := by decide +kernel
theorem d_K_init_118 : decode prog_7_method_1_code 118 = .ok (.putfield 50, 3) := by decide +kernel
theorem d_K_init_121 : decode prog_7_method_1_code 121 = .ok (.aload_n 0, 1) := by decide +kernel
theorem d_K_init_122 : decode prog_7_method_1_code 122 = .ok (.bipush 20, 2) := by decide +kernel
theorem d_K_init_124 : decode prog_7_method_1_code 124 = .ok (.newarray .int, 2) := by decide +kernel
theorem d_K_init_126 : decode prog_7_method_1_code 126 = .ok (.putfield 53, 3) := by decide +kernel
theorem d_K_init_129 : decode prog_7_method_1_code 129 = .ok (.aload_n 0, 1) := by decide +kernel
theorem d_K_init_130 : decode prog_7_method_1_code 130 = .ok (.bipush 20, 2) := by decide +kernel
theorem d_K_init_132 : decode prog_7_method_1_code 132 = .ok (.newarray .int, 2) := by decide +kernel
theorem d_K_init_134 : decode prog_7_method_1_code 134 = .ok (.putfield 56, 3) := by decide +kernel
theorem d_K_init_137 : decode prog_7_method_1_code 137 = .ok (.aload_n 0, 1) := by decide +kernel
theorem d_K_init_138 : decode prog_7_method_1_code 138 = .ok (.bipush 10, 2) := by decide +kernel
theorem d_K_init_140 : decode prog_7_method_1_code 140 = .ok (.newarray .int, 2) := by decide +kernel
theorem d_K_init_142 : decode prog_7_method_1_code 142 = .ok (.putfield 59, 3) := by decide +kernel
theorem d_K_init_145 : decode prog_7_method_1_code 145 = .ok (.aload_n 0, 1) := by decide +kernel
theorem d_K_init_146 : decode prog_7_method_1_code 146 = .ok (.bipush 21, 2) := by decide +kernel
theorem d_K_init_148 : decode prog_7_method_1_code 148 = .ok (.newarray .long, 2) := by decide +kernel
theorem d_K_init_150 : decode prog_7_method_1_code 150 = .ok (.putfield 62, 3) := by decide +kernel
theorem d_K_init_153 : decode prog_7_method_1_code 153 = .ok (.aload_n 0, 1) := by decide +kernel
theorem d_K_init_154 : decode prog_7_method_1_code 154 = .ok (.bipush 21, 2) := by decide +kernel
theorem d_K_init_156 : decode prog_7_method_1_code 156 = .ok (.newarray .long, 2) := by decide +kernel
theorem d_K_init_158 : decode prog_7_method_1_code 158 = .ok (.putfield 66, 3) := by decide +kernel
theorem d_K_init_161 : decode prog_7_method_1_code 161 = .ok (.return_, 1) := by decide +kernel
theorem d_K_thrown_0 : decode prog_7_method_2_code 0 = .ok (.aload_n 0, 1) := by decide +kernel
theorem d_K_thrown_1 : decode prog_7_method_2_code 1 = .ok (.getfield 69, 3) := by decide +kernel
theorem d_K_thrown_4 : decode prog_7_method_2_code 4 = .ok (.ireturn, 1) := by decide +kernel
theorem d_K_tensor_0 : decode prog_7_method_6_code 0 = .ok (.aload_n 0, 1) := by decide +kernel
theorem d_K_tensor_1 : decode prog_7_method_6_code 1 = .ok (.iconst 0, 1) := by decide +kernel
theorem d_K_tensor_2 : decode prog_7_method_6_code 2 = .ok (.putfield 69, 3) := by decide +kernel
theorem d_K_tensor_5 : decode prog_7_method_6_code 5 = .ok (.iload_n 1, 1) := by decide +kernel
theorem d_K_tensor_6 : decode prog_7_method_6_code 6 = .ok (.ifCond .lt 18, 3) := by decide +kernel
theorem d_K_tensor_9 : decode prog_7_method_6_code 9 = .ok (.iload_n 1, 1) := by decide +kernel
theorem d_K_tensor_10 : decode prog_7_method_6_code 10 = .ok (.bipush 6, 2) := by decide +kernel
theorem d_K_tensor_12 : decode prog_7_method_6_code 12 = .ok (.if_icmp .gt 12, 3) := by decide +kernel
theorem d_K_tensor_15 : decode prog_7_method_6_code 15 = .ok (.aload_n 0, 1) := by decide +kernel
theorem d_K_tensor_16 : decode prog_7_method_6_code 16 = .ok (.getfield 73, 3) := by decide +kernel
theorem d_K_tensor_19 : decode prog_7_method_6_code 19 = .ok (.bipush 10, 2) := by decide +kernel
theorem d_K_tensor_21 : decode prog_7_method_6_code 21 = .ok (.if_icmp .ne 5, 3) := by decide +kernel
theorem d_K_tensor_24 : decode prog_7_method_6_code 24 = .ok (.iconst (-1), 1) := by decide +kernel
theorem d_K_tensor_25 : decode prog_7_method_6_code 25 = .ok (.ireturn, 1) := by decide +kernel
theorem d_K_tensor_26 : decode prog_7_method_6_code 26 = .ok (.aload_n 0, 1) := by decide +kernel
theorem d_K_tensor_27 : decode prog_7_method_6_code 27 = .ok (.getfield 7, 3) := by decide +kernel
theorem d_K_tensor_30 : decode prog_7_method_6_code 30 = .ok (.aload_n 0, 1) := by decide +kernel
theorem d_K_tensor_31 : decode prog_7_method_6_code 31 = .ok (.getfield 73, 3) := by decide +kernel
theorem d_K_tensor_34 : decode prog_7_method_6_code 34 = .ok (.iload_n 1, 1) := by decide +kernel
theorem d_K_tensor_35 : decode prog_7_method_6_code 35 = .ok (.iastore, 1) := by decide +kernel
theorem d_K_tensor_36 : decode prog_7_method_6_code 36 = .ok (.iconst 0, 1) := by decide +kernel
theorem d_K_tensor_37 : decode prog_7_method_6_code 37 = .ok (.istore_n 2, 1) := by decide +kernel
theorem d_K_tensor_38 : decode prog_7_method_6_code 38 = .ok (.iload_n 2, 1) := by decide +kernel
theorem d_K_tensor_39 : decode prog_7_method_6_code 39 = .ok (.bipush 6, 2) := by decide +kernel
theorem d_K_tensor_41 : decode prog_7_method_6_code 41 = .ok (.if_icmp .ge 24, 3) := by decide +kernel
theorem d_K_tensor_44 : decode prog_7_method_6_code 44 = .ok (.aload_n 0, 1) := by decide +kernel
theorem d_K_tensor_45 : decode prog_7_method_6_code 45 = .ok (.getfield 13, 3) := by decide +kernel
theorem d_K_tensor_48 : decode prog_7_method_6_code 48 = .ok (.bipush 6, 2) := by decide +kernel
theorem d_K_tensor_50 : decode prog_7_method_6_code 50 = .ok (.aload_n 0, 1) := by decide +kernel
theorem d_K_tensor_51 : decode prog_7_method_6_code 51 = .ok (.getfield 73, 3) := by decide +kernel
theorem d_K_tensor_54 : decode prog_7_method_6_code 54 = .ok (.imul, 1) := by decide +kernel
theorem d_K_tensor_55 : decode prog_7_method_6_code 55 = .ok (.iload_n 2, 1) := by decide +kernel
theorem d_K_tensor_56 : decode prog_7_method_6_code 56 = .ok (.iadd, 1) := by decide +kernel
theorem d_K_tensor_57 : decode prog_7_method_6_code 57 = .ok (.iconst (-1), 1) := by decide +kernel
theorem d_K_tensor_58 : decode prog_7_method_6_code 58 = .ok (.iastore, 1) := by decide +kernel
theorem d_K_tensor_59 : decode prog_7_method_6_code 59 = .ok (.iinc 2 1, 3) := by decide +kernel
theorem d_K_tensor_62 : decode prog_7_method_6_code 62 = .ok (.goto (-24), 3) := by decide +kernel
theorem d_K_tensor_65 : decode prog_7_method_6_code 65 = .ok (.iconst 0, 1) := by decide +kernel
theorem d_K_tensor_66 : decode prog_7_method_6_code 66 = .ok (.istore_n 2, 1) := by decide +kernel
theorem d_K_tensor_67 : decode prog_7_method_6_code 67 = .ok (.iload_n 2, 1) := by decide +kernel
theorem d_K_tensor_68 : decode prog_7_method_6_code 68 = .ok (.bipush 64, 2) := by decide +kernel
theorem d_K_tensor_70 : decode prog_7_method_6_code 70 = .ok (.if_icmp .ge 39, 3) := by decide +kernel
theorem d_K_tensor_73 : decode prog_7_method_6_code 73 = .ok (.aload_n 0, 1) := by decide +kernel
theorem d_K_tensor_74 : decode prog_7_method_6_code 74 = .ok (.getfield 16, 3) := by decide +kernel
theorem d_K_tensor_77 : decode prog_7_method_6_code 77 = .ok (.bipush 64, 2) := by decide +kernel
theorem d_K_tensor_79 : decode prog_7_method_6_code 79 = .ok (.aload_n 0, 1) := by decide +kernel
theorem d_K_tensor_80 : decode prog_7_method_6_code 80 = .ok (.getfield 73, 3) := by decide +kernel
theorem d_K_tensor_83 : decode prog_7_method_6_code 83 = .ok (.imul, 1) := by decide +kernel
theorem d_K_tensor_84 : decode prog_7_method_6_code 84 = .ok (.iload_n 2, 1) := by decide +kernel
theorem d_K_tensor_85 : decode prog_7_method_6_code 85 = .ok (.iadd, 1) := by decide +kernel
theorem d_K_tensor_86 : decode prog_7_method_6_code 86 = .ok (.iconst 0, 1) := by decide +kernel
theorem d_K_tensor_87 : decode prog_7_method_6_code 87 = .ok (.iastore, 1) := by decide +kernel
theorem d_K_tensor_88 : decode prog_7_method_6_code 88 = .ok (.aload_n 0, 1) := by decide +kernel
theorem d_K_tensor_89 : decode prog_7_method_6_code 89 = .ok (.getfield 19, 3) := by decide +kernel
theorem d_K_tensor_92 : decode prog_7_method_6_code 92 = .ok (.bipush 64, 2) := by decide +kernel
theorem d_K_tensor_94 : decode prog_7_method_6_code 94 = .ok (.aload_n 0, 1) := by decide +kernel
theorem d_K_tensor_95 : decode prog_7_method_6_code 95 = .ok (.getfield 73, 3) := by decide +kernel
theorem d_K_tensor_98 : decode prog_7_method_6_code 98 = .ok (.imul, 1) := by decide +kernel
theorem d_K_tensor_99 : decode prog_7_method_6_code 99 = .ok (.iload_n 2, 1) := by decide +kernel
theorem d_K_tensor_100 : decode prog_7_method_6_code 100 = .ok (.iadd, 1) := by decide +kernel
theorem d_K_tensor_101 : decode prog_7_method_6_code 101 = .ok (.iconst 0, 1) := by decide +kernel
theorem d_K_tensor_102 : decode prog_7_method_6_code 102 = .ok (.iastore, 1) := by decide +kernel
theorem d_K_tensor_103 : decode prog_7_method_6_code 103 = .ok (.iinc 2 1, 3) := by decide +kernel
theorem d_K_tensor_106 : decode prog_7_method_6_code 106 = .ok (.goto (-39), 3) := by decide +kernel
theorem d_K_tensor_109 : decode prog_7_method_6_code 109 = .ok (.aload_n 0, 1) := by decide +kernel
theorem d_K_tensor_110 : decode prog_7_method_6_code 110 = .ok (.dup, 1) := by decide +kernel
theorem d_K_tensor_111 : decode prog_7_method_6_code 111 = .ok (.getfield 73, 3) := by decide +kernel
theorem d_K_tensor_114 : decode prog_7_method_6_code 114 = .ok (.iconst 1, 1) := by decide +kernel
theorem d_K_tensor_115 : decode prog_7_method_6_code 115 = .ok (.iadd, 1) := by decide +kernel
theorem d_K_tensor_116 : decode prog_7_method_6_code 116 = .ok (.putfield 73, 3) := by decide +kernel
theorem d_K_tensor_119 : decode prog_7_method_6_code 119 = .ok (.aload_n 0, 1) := by decide +kernel
theorem d_K_tensor_120 : decode prog_7_method_6_code 120 = .ok (.getfield 73, 3) := by decide +kernel
theorem d_K_tensor_123 : decode prog_7_method_6_code 123 = .ok (.iconst 1, 1) := by decide +kernel
theorem d_K_tensor_124 : decode prog_7_method_6_code 124 = .ok (.isub, 1) := by decide +kernel
theorem d_K_tensor_125 : decode prog_7_method_6_code 125 = .ok (.ireturn, 1) := by decide +kernel
theorem d_K_leg_0 : decode prog_7_method_7_code 0 = .ok (.aload_n 0, 1) := by decide +kernel
theorem d_K_leg_1 : decode prog_7_method_7_code 1 = .ok (.iconst 0, 1) := by decide +kernel
theorem d_K_leg_2 : decode prog_7_method_7_code 2 = .ok (.putfield 69, 3) := by decide +kernel
theorem d_K_leg_5 : decode prog_7_method_7_code 5 = .ok (.aload_n 0, 1) := by decide +kernel
theorem d_K_leg_6 : decode prog_7_method_7_code 6 = .ok (.iload_n 1, 1) := by decide +kernel
theorem d_K_leg_7 : decode prog_7_method_7_code 7 = .ok (.invokevirtual 76, 3) := by decide +kernel
theorem d_K_leg_10 : decode prog_7_method_7_code 10 = .ok (.ifCond .eq 28, 3) := by decide +kernel
theorem d_K_leg_13 : decode prog_7_method_7_code 13 = .ok (.iload_n 2, 1) := by decide +kernel
theorem d_K_leg_14 : decode prog_7_method_7_code 14 = .ok (.ifCond .lt 24, 3) := by decide +kernel
theorem d_K_leg_17 : decode prog_7_method_7_code 17 = .ok (.iload_n 2, 1) := by decide +kernel
theorem d_K_leg_18 : decode prog_7_method_7_code 18 = .ok (.aload_n 0, 1) := by decide +kernel
theorem d_K_leg_19 : decode prog_7_method_7_code 19 = .ok (.getfield 7, 3) := by decide +kernel
theorem d_K_leg_22 : decode prog_7_method_7_code 22 = .ok (.iload_n 1, 1) := by decide +kernel
theorem d_K_leg_23 : decode prog_7_method_7_code 23 = .ok (.iaload, 1) := by decide +kernel
theorem d_K_leg_24 : decode prog_7_method_7_code 24 = .ok (.if_icmp .ge 14, 3) := by decide +kernel
theorem d_K_leg_27 : decode prog_7_method_7_code 27 = .ok (.iload_n 3, 1) := by decide +kernel
theorem d_K_leg_28 : decode prog_7_method_7_code 28 = .ok (.iconst (-1), 1) := by decide +kernel
theorem d_K_leg_29 : decode prog_7_method_7_code 29 = .ok (.if_icmp .lt 9, 3) := by decide +kernel
theorem d_K_leg_32 : decode prog_7_method_7_code 32 = .ok (.iload_n 3, 1) := by decide +kernel
theorem d_K_leg_33 : decode prog_7_method_7_code 33 = .ok (.bipush 20, 2) := by decide +kernel
theorem d_K_leg_35 : decode prog_7_method_7_code 35 = .ok (.if_icmp .lt 5, 3) := by decide +kernel
theorem d_K_leg_38 : decode prog_7_method_7_code 38 = .ok (.iconst 0, 1) := by decide +kernel
theorem d_K_leg_39 : decode prog_7_method_7_code 39 = .ok (.ireturn, 1) := by decide +kernel
theorem d_K_leg_40 : decode prog_7_method_7_code 40 = .ok (.iconst 0, 1) := by decide +kernel
theorem d_K_leg_41 : decode prog_7_method_7_code 41 = .ok (.istore 4, 2) := by decide +kernel
theorem d_K_leg_43 : decode prog_7_method_7_code 43 = .ok (.iconst 0, 1) := by decide +kernel
theorem d_K_leg_44 : decode prog_7_method_7_code 44 = .ok (.istore 5, 2) := by decide +kernel
theorem d_K_leg_46 : decode prog_7_method_7_code 46 = .ok (.iload 5, 2) := by decide +kernel
theorem d_K_leg_48 : decode prog_7_method_7_code 48 = .ok (.bipush 6, 2) := by decide +kernel
theorem d_K_leg_50 : decode prog_7_method_7_code 50 = .ok (.aload_n 0, 1) := by decide +kernel
theorem d_K_leg_51 : decode prog_7_method_7_code 51 = .ok (.getfield 73, 3) := by decide +kernel
theorem d_K_leg_54 : decode prog_7_method_7_code 54 = .ok (.imul, 1) := by decide +kernel
theorem d_K_leg_55 : decode prog_7_method_7_code 55 = .ok (.if_icmp .ge 46, 3) := by decide +kernel
theorem d_K_leg_58 : decode prog_7_method_7_code 58 = .ok (.iload 4, 2) := by decide +kernel
theorem d_K_leg_60 : decode prog_7_method_7_code 60 = .ok (.iload_n 3, 1) := by decide +kernel
theorem d_K_leg_61 : decode prog_7_method_7_code 61 = .ok (.iconst (-1), 1) := by decide +kernel
theorem d_K_leg_62 : decode prog_7_method_7_code 62 = .ok (.if_icmp .eq 29, 3) := by decide +kernel
theorem d_K_leg_65 : decode prog_7_method_7_code 65 = .ok (.aload_n 0, 1) := by decide +kernel
theorem d_K_leg_66 : decode prog_7_method_7_code 66 = .ok (.getfield 13, 3) := by decide +kernel
theorem d_K_leg_69 : decode prog_7_method_7_code 69 = .ok (.iload 5, 2) := by decide +kernel
theorem d_K_leg_71 : decode prog_7_method_7_code 71 = .ok (.iaload, 1) := by decide +kernel
theorem d_K_leg_72 : decode prog_7_method_7_code 72 = .ok (.iload_n 3, 1) := by decide +kernel
theorem d_K_leg_73 : decode prog_7_method_7_code 73 = .ok (.if_icmp .ne 18, 3) := by decide +kernel
theorem d_K_leg_76 : decode prog_7_method_7_code 76 = .ok (.iload 5, 2) := by decide +kernel
theorem d_K_leg_78 : decode prog_7_method_7_code 78 = .ok (.bipush 6, 2) := by decide +kernel
theorem d_K_leg_80 : decode prog_7_method_7_code 80 = .ok (.iload_n 1, 1) := by decide +kernel
theorem d_K_leg_81 : decode prog_7_method_7_code 81 = .ok (.imul, 1) := by decide +kernel
theorem d_K_leg_82 : decode prog_7_method_7_code 82 = .ok (.iload_n 2, 1) := by decide +kernel
theorem d_K_leg_83 : decode prog_7_method_7_code 83 = .ok (.iadd, 1) := by decide +kernel
theorem d_K_leg_84 : decode prog_7_method_7_code 84 = .ok (.if_icmp .eq 7, 3) := by decide +kernel
theorem d_K_leg_87 : decode prog_7_method_7_code 87 = .ok (.iconst 1, 1) := by decide +kernel
theorem d_K_leg_88 : decode prog_7_method_7_code 88 = .ok (.goto 4, 3) := by decide +kernel
theorem d_K_leg_91 : decode prog_7_method_7_code 91 = .ok (.iconst 0, 1) := by decide +kernel
theorem d_K_leg_92 : decode prog_7_method_7_code 92 = .ok (.iadd, 1) := by decide +kernel
theorem d_K_leg_93 : decode prog_7_method_7_code 93 = .ok (.istore 4, 2) := by decide +kernel
theorem d_K_leg_95 : decode prog_7_method_7_code 95 = .ok (.iinc 5 1, 3) := by decide +kernel
theorem d_K_leg_98 : decode prog_7_method_7_code 98 = .ok (.goto (-52), 3) := by decide +kernel
theorem d_K_leg_101 : decode prog_7_method_7_code 101 = .ok (.iload 4, 2) := by decide +kernel
theorem d_K_leg_103 : decode prog_7_method_7_code 103 = .ok (.iconst 2, 1) := by decide +kernel
theorem d_K_leg_104 : decode prog_7_method_7_code 104 = .ok (.if_icmp .ne 5, 3) := by decide +kernel
theorem d_K_leg_107 : decode prog_7_method_7_code 107 = .ok (.iconst 0, 1) := by decide +kernel
theorem d_K_leg_108 : decode prog_7_method_7_code 108 = .ok (.ireturn, 1) := by decide +kernel
theorem d_K_leg_109 : decode prog_7_method_7_code 109 = .ok (.aload_n 0, 1) := by decide +kernel
theorem d_K_leg_110 : decode prog_7_method_7_code 110 = .ok (.getfield 13, 3) := by decide +kernel
theorem d_K_leg_113 : decode prog_7_method_7_code 113 = .ok (.bipush 6, 2) := by decide +kernel
theorem d_K_leg_115 : decode prog_7_method_7_code 115 = .ok (.iload_n 1, 1) := by decide +kernel
theorem d_K_leg_116 : decode prog_7_method_7_code 116 = .ok (.imul, 1) := by decide +kernel
theorem d_K_leg_117 : decode prog_7_method_7_code 117 = .ok (.iload_n 2, 1) := by decide +kernel
theorem d_K_leg_118 : decode prog_7_method_7_code 118 = .ok (.iadd, 1) := by decide +kernel
theorem d_K_leg_119 : decode prog_7_method_7_code 119 = .ok (.iload_n 3, 1) := by decide +kernel
theorem d_K_leg_120 : decode prog_7_method_7_code 120 = .ok (.iastore, 1) := by decide +kernel
theorem d_K_leg_121 : decode prog_7_method_7_code 121 = .ok (.iconst 1, 1) := by decide +kernel
theorem d_K_leg_122 : decode prog_7_method_7_code 122 = .ok (.ireturn, 1) := by decide +kernel
theorem d_K_isTensor_0 : decode prog_7_method_4_code 0 = .ok (.iload_n 1, 1) := by decide +kernel
theorem d_K_isTensor_1 : decode prog_7_method_4_code 1 = .ok (.ifCond .lt 15, 3) := by decide +kernel
theorem d_K_isTensor_4 : decode prog_7_method_4_code 4 = .ok (.iload_n 1, 1) := by decide +kernel
theorem d_K_isTensor_5 : decode prog_7_method_4_code 5 = .ok (.aload_n 0, 1) := by decide +kernel
theorem d_K_isTensor_6 : decode prog_7_method_4_code 6 = .ok (.getfield 73, 3) := by decide +kernel
theorem d_K_isTensor_9 : decode prog_7_method_4_code 9 = .ok (.if_icmp .ge 7, 3) := by decide +kernel
theorem d_K_isTensor_12 : decode prog_7_method_4_code 12 = .ok (.iconst 1, 1) := by decide +kernel
theorem d_K_isTensor_13 : decode prog_7_method_4_code 13 = .ok (.goto 4, 3) := by decide +kernel
theorem d_K_isTensor_16 : decode prog_7_method_4_code 16 = .ok (.iconst 0, 1) := by decide +kernel
theorem d_K_isTensor_17 : decode prog_7_method_4_code 17 = .ok (.ireturn, 1) := by decide +kernel
theorem d_K_put_0 : decode prog_7_method_9_code 0 = .ok (.aload_n 0, 1) := by decide +kernel
theorem d_K_put_1 : decode prog_7_method_9_code 1 = .ok (.iconst 0, 1) := by decide +kernel
theorem d_K_put_2 : decode prog_7_method_9_code 2 = .ok (.putfield 69, 3) := by decide +kernel
theorem d_K_put_5 : decode prog_7_method_9_code 5 = .ok (.aload_n 0, 1) := by decide +kernel
theorem d_K_put_6 : decode prog_7_method_9_code 6 = .ok (.iload_n 1, 1) := by decide +kernel
theorem d_K_put_7 : decode prog_7_method_9_code 7 = .ok (.iload_n 2, 1) := by decide +kernel
theorem d_K_put_8 : decode prog_7_method_9_code 8 = .ok (.invokevirtual 80, 3) := by decide +kernel
theorem d_K_put_11 : decode prog_7_method_9_code 11 = .ok (.ifCond .eq 29, 3) := by decide +kernel
theorem d_K_put_14 : decode prog_7_method_9_code 14 = .ok (.iload_n 3, 1) := by decide +kernel
theorem d_K_put_15 : decode prog_7_method_9_code 15 = .ok (.bipush (-9), 2) := by decide +kernel
theorem d_K_put_17 : decode prog_7_method_9_code 17 = .ok (.if_icmp .lt 23, 3) := by decide +kernel
theorem d_K_put_20 : decode prog_7_method_9_code 20 = .ok (.iload_n 3, 1) := by decide +kernel
theorem d_K_put_21 : decode prog_7_method_9_code 21 = .ok (.bipush 9, 2) := by decide +kernel
theorem d_K_put_23 : decode prog_7_method_9_code 23 = .ok (.if_icmp .gt 17, 3) := by decide +kernel
theorem d_K_put_26 : decode prog_7_method_9_code 26 = .ok (.iload 4, 2) := by decide +kernel
theorem d_K_put_28 : decode prog_7_method_9_code 28 = .ok (.bipush (-9), 2) := by decide +kernel
theorem d_K_put_30 : decode prog_7_method_9_code 30 = .ok (.if_icmp .lt 10, 3) := by decide +kernel
theorem d_K_put_33 : decode prog_7_method_9_code 33 = .ok (.iload 4, 2) := by decide +kernel
theorem d_K_put_35 : decode prog_7_method_9_code 35 = .ok (.bipush 9, 2) := by decide +kernel
theorem d_K_put_37 : decode prog_7_method_9_code 37 = .ok (.if_icmp .le 5, 3) := by decide +kernel
theorem d_K_put_40 : decode prog_7_method_9_code 40 = .ok (.iconst 0, 1) := by decide +kernel
theorem d_K_put_41 : decode prog_7_method_9_code 41 = .ok (.ireturn, 1) := by decide +kernel
theorem d_K_put_42 : decode prog_7_method_9_code 42 = .ok (.aload_n 0, 1) := by decide +kernel
theorem d_K_put_43 : decode prog_7_method_9_code 43 = .ok (.getfield 16, 3) := by decide +kernel
theorem d_K_put_46 : decode prog_7_method_9_code 46 = .ok (.bipush 64, 2) := by decide +kernel
theorem d_K_put_48 : decode prog_7_method_9_code 48 = .ok (.iload_n 1, 1) := by decide +kernel
theorem d_K_put_49 : decode prog_7_method_9_code 49 = .ok (.imul, 1) := by decide +kernel
theorem d_K_put_50 : decode prog_7_method_9_code 50 = .ok (.iload_n 2, 1) := by decide +kernel
theorem d_K_put_51 : decode prog_7_method_9_code 51 = .ok (.iadd, 1) := by decide +kernel
theorem d_K_put_52 : decode prog_7_method_9_code 52 = .ok (.iload_n 3, 1) := by decide +kernel
theorem d_K_put_53 : decode prog_7_method_9_code 53 = .ok (.iastore, 1) := by decide +kernel
theorem d_K_put_54 : decode prog_7_method_9_code 54 = .ok (.aload_n 0, 1) := by decide +kernel
theorem d_K_put_55 : decode prog_7_method_9_code 55 = .ok (.getfield 19, 3) := by decide +kernel
theorem d_K_put_58 : decode prog_7_method_9_code 58 = .ok (.bipush 64, 2) := by decide +kernel
theorem d_K_put_60 : decode prog_7_method_9_code 60 = .ok (.iload_n 1, 1) := by decide +kernel
theorem d_K_put_61 : decode prog_7_method_9_code 61 = .ok (.imul, 1) := by decide +kernel
theorem d_K_put_62 : decode prog_7_method_9_code 62 = .ok (.iload_n 2, 1) := by decide +kernel
theorem d_K_put_63 : decode prog_7_method_9_code 63 = .ok (.iadd, 1) := by decide +kernel
theorem d_K_put_64 : decode prog_7_method_9_code 64 = .ok (.iload 4, 2) := by decide +kernel
theorem d_K_put_66 : decode prog_7_method_9_code 66 = .ok (.iastore, 1) := by decide +kernel
theorem d_K_put_67 : decode prog_7_method_9_code 67 = .ok (.iconst 1, 1) := by decide +kernel
theorem d_K_put_68 : decode prog_7_method_9_code 68 = .ok (.ireturn, 1) := by decide +kernel
theorem d_K_isIndex_0 : decode prog_7_method_8_code 0 = .ok (.aload_n 0, 1) := by decide +kernel
theorem d_K_isIndex_1 : decode prog_7_method_8_code 1 = .ok (.iload_n 1, 1) := by decide +kernel
theorem d_K_isIndex_2 : decode prog_7_method_8_code 2 = .ok (.invokevirtual 76, 3) := by decide +kernel
theorem d_K_isIndex_5 : decode prog_7_method_8_code 5 = .ok (.ifCond .eq 23, 3) := by decide +kernel
theorem d_K_isIndex_8 : decode prog_7_method_8_code 8 = .ok (.iload_n 2, 1) := by decide +kernel
theorem d_K_isIndex_9 : decode prog_7_method_8_code 9 = .ok (.ifCond .lt 19, 3) := by decide +kernel
theorem d_K_isIndex_12 : decode prog_7_method_8_code 12 = .ok (.iload_n 2, 1) := by decide +kernel
theorem d_K_isIndex_13 : decode prog_7_method_8_code 13 = .ok (.iconst 1, 1) := by decide +kernel
theorem d_K_isIndex_14 : decode prog_7_method_8_code 14 = .ok (.aload_n 0, 1) := by decide +kernel
theorem d_K_isIndex_15 : decode prog_7_method_8_code 15 = .ok (.getfield 7, 3) := by decide +kernel
theorem d_K_isIndex_18 : decode prog_7_method_8_code 18 = .ok (.iload_n 1, 1) := by decide +kernel
theorem d_K_isIndex_19 : decode prog_7_method_8_code 19 = .ok (.iaload, 1) := by decide +kernel
theorem d_K_isIndex_20 : decode prog_7_method_8_code 20 = .ok (.ishl, 1) := by decide +kernel
theorem d_K_isIndex_21 : decode prog_7_method_8_code 21 = .ok (.if_icmp .ge 7, 3) := by decide +kernel
theorem d_K_isIndex_24 : decode prog_7_method_8_code 24 = .ok (.iconst 1, 1) := by decide +kernel
theorem d_K_isIndex_25 : decode prog_7_method_8_code 25 = .ok (.goto 4, 3) := by decide +kernel
theorem d_K_isIndex_28 : decode prog_7_method_8_code 28 = .ok (.iconst 0, 1) := by decide +kernel
theorem d_K_isIndex_29 : decode prog_7_method_8_code 29 = .ok (.ireturn, 1) := by decide +kernel
theorem d_K_clear_0 : decode prog_7_method_10_code 0 = .ok (.aload_n 0, 1) := by decide +kernel
theorem d_K_clear_1 : decode prog_7_method_10_code 1 = .ok (.iconst 0, 1) := by decide +kernel
theorem d_K_clear_2 : decode prog_7_method_10_code 2 = .ok (.putfield 69, 3) := by decide +kernel
theorem d_K_clear_5 : decode prog_7_method_10_code 5 = .ok (.aload_n 0, 1) := by decide +kernel
theorem d_K_clear_6 : decode prog_7_method_10_code 6 = .ok (.iconst 0, 1) := by decide +kernel
theorem d_K_clear_7 : decode prog_7_method_10_code 7 = .ok (.putfield 73, 3) := by decide +kernel
theorem d_K_clear_10 : decode prog_7_method_10_code 10 = .ok (.return_, 1) := by decide +kernel
theorem d_K_open_0 : decode prog_7_method_12_code 0 = .ok (.aload_n 0, 1) := by decide +kernel
theorem d_K_open_1 : decode prog_7_method_12_code 1 = .ok (.iconst 0, 1) := by decide +kernel
theorem d_K_open_2 : decode prog_7_method_12_code 2 = .ok (.putfield 69, 3) := by decide +kernel
theorem d_K_open_5 : decode prog_7_method_12_code 5 = .ok (.aload_n 0, 1) := by decide +kernel
theorem d_K_open_6 : decode prog_7_method_12_code 6 = .ok (.invokevirtual 90, 3) := by decide +kernel
theorem d_K_open_9 : decode prog_7_method_12_code 9 = .ok (.ifCond .eq 10, 3) := by decide +kernel
theorem d_K_open_12 : decode prog_7_method_12_code 12 = .ok (.aload_n 0, 1) := by decide +kernel
theorem d_K_open_13 : decode prog_7_method_12_code 13 = .ok (.getfield 84, 3) := by decide +kernel
theorem d_K_open_16 : decode prog_7_method_12_code 16 = .ok (.goto 4, 3) := by decide +kernel
theorem d_K_open_19 : decode prog_7_method_12_code 19 = .ok (.iconst (-1), 1) := by decide +kernel
theorem d_K_open_20 : decode prog_7_method_12_code 20 = .ok (.ireturn, 1) := by decide +kernel
theorem d_K_isReady_0 : decode prog_7_method_11_code 0 = .ok (.iconst 0, 1) := by decide +kernel
theorem d_K_isReady_1 : decode prog_7_method_11_code 1 = .ok (.istore_n 1, 1) := by decide +kernel
theorem d_K_isReady_2 : decode prog_7_method_11_code 2 = .ok (.iconst 0, 1) := by decide +kernel
theorem d_K_isReady_3 : decode prog_7_method_11_code 3 = .ok (.istore_n 2, 1) := by decide +kernel
theorem d_K_isReady_4 : decode prog_7_method_11_code 4 = .ok (.aload_n 0, 1) := by decide +kernel
theorem d_K_isReady_5 : decode prog_7_method_11_code 5 = .ok (.getfield 73, 3) := by decide +kernel
theorem d_K_isReady_8 : decode prog_7_method_11_code 8 = .ok (.ifCond .le 7, 3) := by decide +kernel
theorem d_K_isReady_11 : decode prog_7_method_11_code 11 = .ok (.iconst 1, 1) := by decide +kernel
theorem d_K_isReady_12 : decode prog_7_method_11_code 12 = .ok (.goto 4, 3) := by decide +kernel
theorem d_K_isReady_15 : decode prog_7_method_11_code 15 = .ok (.iconst 0, 1) := by decide +kernel
theorem d_K_isReady_16 : decode prog_7_method_11_code 16 = .ok (.istore_n 3, 1) := by decide +kernel
theorem d_K_isReady_17 : decode prog_7_method_11_code 17 = .ok (.iconst 0, 1) := by decide +kernel
theorem d_K_isReady_18 : decode prog_7_method_11_code 18 = .ok (.istore 4, 2) := by decide +kernel
theorem d_K_isReady_20 : decode prog_7_method_11_code 20 = .ok (.iload 4, 2) := by decide +kernel
theorem d_K_isReady_22 : decode prog_7_method_11_code 22 = .ok (.aload_n 0, 1) := by decide +kernel
theorem d_K_isReady_23 : decode prog_7_method_11_code 23 = .ok (.getfield 73, 3) := by decide +kernel
theorem d_K_isReady_26 : decode prog_7_method_11_code 26 = .ok (.if_icmp .ge 108, 3) := by decide +kernel
theorem d_K_isReady_29 : decode prog_7_method_11_code 29 = .ok (.aload_n 0, 1) := by decide +kernel
theorem d_K_isReady_30 : decode prog_7_method_11_code 30 = .ok (.getfield 22, 3) := by decide +kernel
theorem d_K_isReady_33 : decode prog_7_method_11_code 33 = .ok (.iload 4, 2) := by decide +kernel
theorem d_K_isReady_35 : decode prog_7_method_11_code 35 = .ok (.iconst 0, 1) := by decide +kernel
theorem d_K_isReady_36 : decode prog_7_method_11_code 36 = .ok (.iastore, 1) := by decide +kernel
theorem d_K_isReady_37 : decode prog_7_method_11_code 37 = .ok (.iconst 0, 1) := by decide +kernel
theorem d_K_isReady_38 : decode prog_7_method_11_code 38 = .ok (.istore 5, 2) := by decide +kernel
theorem d_K_isReady_40 : decode prog_7_method_11_code 40 = .ok (.iload 5, 2) := by decide +kernel
theorem d_K_isReady_42 : decode prog_7_method_11_code 42 = .ok (.aload_n 0, 1) := by decide +kernel
theorem d_K_isReady_43 : decode prog_7_method_11_code 43 = .ok (.getfield 7, 3) := by decide +kernel
theorem d_K_isReady_46 : decode prog_7_method_11_code 46 = .ok (.iload 4, 2) := by decide +kernel
theorem d_K_isReady_48 : decode prog_7_method_11_code 48 = .ok (.iaload, 1) := by decide +kernel
theorem d_K_isReady_49 : decode prog_7_method_11_code 49 = .ok (.if_icmp .ge 79, 3) := by decide +kernel
theorem d_K_isReady_52 : decode prog_7_method_11_code 52 = .ok (.aload_n 0, 1) := by decide +kernel
theorem d_K_isReady_53 : decode prog_7_method_11_code 53 = .ok (.getfield 13, 3) := by decide +kernel
theorem d_K_isReady_56 : decode prog_7_method_11_code 56 = .ok (.bipush 6, 2) := by decide +kernel
theorem d_K_isReady_58 : decode prog_7_method_11_code 58 = .ok (.iload 4, 2) := by decide +kernel
theorem d_K_isReady_60 : decode prog_7_method_11_code 60 = .ok (.imul, 1) := by decide +kernel
theorem d_K_isReady_61 : decode prog_7_method_11_code 61 = .ok (.iload 5, 2) := by decide +kernel
theorem d_K_isReady_63 : decode prog_7_method_11_code 63 = .ok (.iadd, 1) := by decide +kernel
theorem d_K_isReady_64 : decode prog_7_method_11_code 64 = .ok (.iaload, 1) := by decide +kernel
theorem d_K_isReady_65 : decode prog_7_method_11_code 65 = .ok (.istore 6, 2) := by decide +kernel
theorem d_K_isReady_67 : decode prog_7_method_11_code 67 = .ok (.iload_n 3, 1) := by decide +kernel
theorem d_K_isReady_68 : decode prog_7_method_11_code 68 = .ok (.ifCond .eq 13, 3) := by decide +kernel
theorem d_K_isReady_71 : decode prog_7_method_11_code 71 = .ok (.iload 6, 2) := by decide +kernel
theorem d_K_isReady_73 : decode prog_7_method_11_code 73 = .ok (.iconst (-1), 1) := by decide +kernel
theorem d_K_isReady_74 : decode prog_7_method_11_code 74 = .ok (.if_icmp .eq 7, 3) := by decide +kernel
theorem d_K_isReady_77 : decode prog_7_method_11_code 77 = .ok (.iconst 1, 1) := by decide +kernel
theorem d_K_isReady_78 : decode prog_7_method_11_code 78 = .ok (.goto 4, 3) := by decide +kernel
theorem d_K_isReady_81 : decode prog_7_method_11_code 81 = .ok (.iconst 0, 1) := by decide +kernel
theorem d_K_isReady_82 : decode prog_7_method_11_code 82 = .ok (.istore_n 3, 1) := by decide +kernel
theorem d_K_isReady_83 : decode prog_7_method_11_code 83 = .ok (.iload 6, 2) := by decide +kernel
theorem d_K_isReady_85 : decode prog_7_method_11_code 85 = .ok (.iconst (-1), 1) := by decide +kernel
theorem d_K_isReady_86 : decode prog_7_method_11_code 86 = .ok (.if_icmp .ne 6, 3) := by decide +kernel
theorem d_K_isReady_89 : decode prog_7_method_11_code 89 = .ok (.goto 33, 3) := by decide +kernel
theorem d_K_isReady_92 : decode prog_7_method_11_code 92 = .ok (.aload_n 0, 1) := by decide +kernel
theorem d_K_isReady_93 : decode prog_7_method_11_code 93 = .ok (.getfield 22, 3) := by decide +kernel
theorem d_K_isReady_96 : decode prog_7_method_11_code 96 = .ok (.iload 4, 2) := by decide +kernel
theorem d_K_isReady_98 : decode prog_7_method_11_code 98 = .ok (.dup2, 1) := by decide +kernel
theorem d_K_isReady_99 : decode prog_7_method_11_code 99 = .ok (.iaload, 1) := by decide +kernel
theorem d_K_isReady_100 : decode prog_7_method_11_code 100 = .ok (.iconst 1, 1) := by decide +kernel
theorem d_K_isReady_101 : decode prog_7_method_11_code 101 = .ok (.iload 6, 2) := by decide +kernel
theorem d_K_isReady_103 : decode prog_7_method_11_code 103 = .ok (.ishl, 1) := by decide +kernel
theorem d_K_isReady_104 : decode prog_7_method_11_code 104 = .ok (.ixor, 1) := by decide +kernel
theorem d_K_isReady_105 : decode prog_7_method_11_code 105 = .ok (.iastore, 1) := by decide +kernel
theorem d_K_isReady_106 : decode prog_7_method_11_code 106 = .ok (.iload_n 2, 1) := by decide +kernel
theorem d_K_isReady_107 : decode prog_7_method_11_code 107 = .ok (.iload_n 1, 1) := by decide +kernel
theorem d_K_isReady_108 : decode prog_7_method_11_code 108 = .ok (.iconst 1, 1) := by decide +kernel
theorem d_K_isReady_109 : decode prog_7_method_11_code 109 = .ok (.iload 6, 2) := by decide +kernel
theorem d_K_isReady_111 : decode prog_7_method_11_code 111 = .ok (.ishl, 1) := by decide +kernel
theorem d_K_isReady_112 : decode prog_7_method_11_code 112 = .ok (.iand, 1) := by decide +kernel
theorem d_K_isReady_113 : decode prog_7_method_11_code 113 = .ok (.ior, 1) := by decide +kernel
theorem d_K_isReady_114 : decode prog_7_method_11_code 114 = .ok (.istore_n 2, 1) := by decide +kernel
theorem d_K_isReady_115 : decode prog_7_method_11_code 115 = .ok (.iload_n 1, 1) := by decide +kernel
theorem d_K_isReady_116 : decode prog_7_method_11_code 116 = .ok (.iconst 1, 1) := by decide +kernel
theorem d_K_isReady_117 : decode prog_7_method_11_code 117 = .ok (.iload 6, 2) := by decide +kernel
theorem d_K_isReady_119 : decode prog_7_method_11_code 119 = .ok (.ishl, 1) := by decide +kernel
theorem d_K_isReady_120 : decode prog_7_method_11_code 120 = .ok (.ior, 1) := by decide +kernel
theorem d_K_isReady_121 : decode prog_7_method_11_code 121 = .ok (.istore_n 1, 1) := by decide +kernel
theorem d_K_isReady_122 : decode prog_7_method_11_code 122 = .ok (.iinc 5 1, 3) := by decide +kernel
theorem d_K_isReady_125 : decode prog_7_method_11_code 125 = .ok (.goto (-85), 3) := by decide +kernel
theorem d_K_isReady_128 : decode prog_7_method_11_code 128 = .ok (.iinc 4 1, 3) := by decide +kernel
theorem d_K_isReady_131 : decode prog_7_method_11_code 131 = .ok (.goto (-111), 3) := by decide +kernel
theorem d_K_isReady_134 : decode prog_7_method_11_code 134 = .ok (.aload_n 0, 1) := by decide +kernel
theorem d_K_isReady_135 : decode prog_7_method_11_code 135 = .ok (.iload_n 1, 1) := by decide +kernel
theorem d_K_isReady_136 : decode prog_7_method_11_code 136 = .ok (.iload_n 2, 1) := by decide +kernel
theorem d_K_isReady_137 : decode prog_7_method_11_code 137 = .ok (.iconst (-1), 1) := by decide +kernel
theorem d_K_isReady_138 : decode prog_7_method_11_code 138 = .ok (.ixor, 1) := by decide +kernel
theorem d_K_isReady_139 : decode prog_7_method_11_code 139 = .ok (.iand, 1) := by decide +kernel
theorem d_K_isReady_140 : decode prog_7_method_11_code 140 = .ok (.putfield 84, 3) := by decide +kernel
theorem d_K_isReady_143 : decode prog_7_method_11_code 143 = .ok (.aload_n 0, 1) := by decide +kernel
theorem d_K_isReady_144 : decode prog_7_method_11_code 144 = .ok (.iload_n 2, 1) := by decide +kernel
theorem d_K_isReady_145 : decode prog_7_method_11_code 145 = .ok (.putfield 87, 3) := by decide +kernel
theorem d_K_isReady_148 : decode prog_7_method_11_code 148 = .ok (.iload_n 3, 1) := by decide +kernel
theorem d_K_isReady_149 : decode prog_7_method_11_code 149 = .ok (.ireturn, 1) := by decide +kernel
theorem d_K_cost_0 : decode prog_7_method_18_code 0 = .ok (.aload_n 0, 1) := by decide +kernel
theorem d_K_cost_1 : decode prog_7_method_18_code 1 = .ok (.iconst 0, 1) := by decide +kernel
theorem d_K_cost_2 : decode prog_7_method_18_code 2 = .ok (.putfield 69, 3) := by decide +kernel
theorem d_K_cost_5 : decode prog_7_method_18_code 5 = .ok (.aload_n 0, 1) := by decide +kernel
theorem d_K_cost_6 : decode prog_7_method_18_code 6 = .ok (.invokevirtual 90, 3) := by decide +kernel
theorem d_K_cost_9 : decode prog_7_method_18_code 9 = .ok (.ifCond .ne 5, 3) := by decide +kernel
theorem d_K_cost_12 : decode prog_7_method_18_code 12 = .ok (.iconst (-1), 1) := by decide +kernel
theorem d_K_cost_13 : decode prog_7_method_18_code 13 = .ok (.ireturn, 1) := by decide +kernel
theorem d_K_cost_14 : decode prog_7_method_18_code 14 = .ok (.aload_n 0, 1) := by decide +kernel
theorem d_K_cost_15 : decode prog_7_method_18_code 15 = .ok (.iconst 0, 1) := by decide +kernel
theorem d_K_cost_16 : decode prog_7_method_18_code 16 = .ok (.invokevirtual 112, 3) := by decide +kernel
theorem d_K_cost_19 : decode prog_7_method_18_code 19 = .ok (.aload_n 0, 1) := by decide +kernel
theorem d_K_cost_20 : decode prog_7_method_18_code 20 = .ok (.getfield 28, 3) := by decide +kernel
theorem d_K_cost_23 : decode prog_7_method_18_code 23 = .ok (.aload_n 0, 1) := by decide +kernel
theorem d_K_cost_24 : decode prog_7_method_18_code 24 = .ok (.invokevirtual 98, 3) := by decide +kernel
theorem d_K_cost_27 : decode prog_7_method_18_code 27 = .ok (.iaload, 1) := by decide +kernel
theorem d_K_cost_28 : decode prog_7_method_18_code 28 = .ok (.ireturn, 1) := by decide +kernel
theorem d_K_findOrder_0 : decode prog_7_method_15_code 0 = .ok (.iconst 1, 1) := by decide +kernel
theorem d_K_findOrder_1 : decode prog_7_method_15_code 1 = .ok (.istore_n 2, 1) := by decide +kernel
theorem d_K_findOrder_2 : decode prog_7_method_15_code 2 = .ok (.iload_n 2, 1) := by decide +kernel
theorem d_K_findOrder_3 : decode prog_7_method_15_code 3 = .ok (.aload_n 0, 1) := by decide +kernel
theorem d_K_findOrder_4 : decode prog_7_method_15_code 4 = .ok (.invokevirtual 98, 3) := by decide +kernel
theorem d_K_findOrder_7 : decode prog_7_method_15_code 7 = .ok (.if_icmp .gt 15, 3) := by decide +kernel
theorem d_K_findOrder_10 : decode prog_7_method_15_code 10 = .ok (.aload_n 0, 1) := by decide +kernel
theorem d_K_findOrder_11 : decode prog_7_method_15_code 11 = .ok (.iload_n 2, 1) := by decide +kernel
theorem d_K_findOrder_12 : decode prog_7_method_15_code 12 = .ok (.iload_n 1, 1) := by decide +kernel
theorem d_K_findOrder_13 : decode prog_7_method_15_code 13 = .ok (.invokevirtual 102, 3) := by decide +kernel
theorem d_K_findOrder_16 : decode prog_7_method_15_code 16 = .ok (.iinc 2 1, 3) := by decide +kernel
theorem d_K_findOrder_19 : decode prog_7_method_15_code 19 = .ok (.goto (-17), 3) := by decide +kernel
theorem d_K_findOrder_22 : decode prog_7_method_15_code 22 = .ok (.return_, 1) := by decide +kernel
theorem d_K_all_0 : decode prog_7_method_14_code 0 = .ok (.iconst 1, 1) := by decide +kernel
theorem d_K_all_1 : decode prog_7_method_14_code 1 = .ok (.aload_n 0, 1) := by decide +kernel
theorem d_K_all_2 : decode prog_7_method_14_code 2 = .ok (.getfield 73, 3) := by decide +kernel
theorem d_K_all_5 : decode prog_7_method_14_code 5 = .ok (.ishl, 1) := by decide +kernel
theorem d_K_all_6 : decode prog_7_method_14_code 6 = .ok (.iconst 1, 1) := by decide +kernel
theorem d_K_all_7 : decode prog_7_method_14_code 7 = .ok (.isub, 1) := by decide +kernel
theorem d_K_all_8 : decode prog_7_method_14_code 8 = .ok (.ireturn, 1) := by decide +kernel
theorem d_K_findSet_0 : decode prog_7_method_13_code 0 = .ok (.iload_n 1, 1) := by decide +kernel
theorem d_K_findSet_1 : decode prog_7_method_13_code 1 = .ok (.iload_n 1, 1) := by decide +kernel
theorem d_K_findSet_2 : decode prog_7_method_13_code 2 = .ok (.ineg, 1) := by decide +kernel
theorem d_K_findSet_3 : decode prog_7_method_13_code 3 = .ok (.iand, 1) := by decide +kernel
theorem d_K_findSet_4 : decode prog_7_method_13_code 4 = .ok (.istore_n 3, 1) := by decide +kernel
theorem d_K_findSet_5 : decode prog_7_method_13_code 5 = .ok (.aload_n 0, 1) := by decide +kernel
theorem d_K_findSet_6 : decode prog_7_method_13_code 6 = .ok (.getfield 25, 3) := by decide +kernel
theorem d_K_findSet_9 : decode prog_7_method_13_code 9 = .ok (.iload_n 1, 1) := by decide +kernel
theorem d_K_findSet_10 : decode prog_7_method_13_code 10 = .ok (.iconst 0, 1) := by decide +kernel
theorem d_K_findSet_11 : decode prog_7_method_13_code 11 = .ok (.iastore, 1) := by decide +kernel
theorem d_K_findSet_12 : decode prog_7_method_13_code 12 = .ok (.iconst 0, 1) := by decide +kernel
theorem d_K_findSet_13 : decode prog_7_method_13_code 13 = .ok (.istore 4, 2) := by decide +kernel
theorem d_K_findSet_15 : decode prog_7_method_13_code 15 = .ok (.iload 4, 2) := by decide +kernel
theorem d_K_findSet_17 : decode prog_7_method_13_code 17 = .ok (.aload_n 0, 1) := by decide +kernel
theorem d_K_findSet_18 : decode prog_7_method_13_code 18 = .ok (.getfield 73, 3) := by decide +kernel
theorem d_K_findSet_21 : decode prog_7_method_13_code 21 = .ok (.if_icmp .ge 39, 3) := by decide +kernel
theorem d_K_findSet_24 : decode prog_7_method_13_code 24 = .ok (.iload_n 1, 1) := by decide +kernel
theorem d_K_findSet_25 : decode prog_7_method_13_code 25 = .ok (.iload 4, 2) := by decide +kernel
theorem d_K_findSet_27 : decode prog_7_method_13_code 27 = .ok (.ishr, 1) := by decide +kernel
theorem d_K_findSet_28 : decode prog_7_method_13_code 28 = .ok (.iconst 1, 1) := by decide +kernel
theorem d_K_findSet_29 : decode prog_7_method_13_code 29 = .ok (.iand, 1) := by decide +kernel
theorem d_K_findSet_30 : decode prog_7_method_13_code 30 = .ok (.iconst 1, 1) := by decide +kernel
theorem d_K_findSet_31 : decode prog_7_method_13_code 31 = .ok (.if_icmp .ne 23, 3) := by decide +kernel
theorem d_K_findSet_34 : decode prog_7_method_13_code 34 = .ok (.aload_n 0, 1) := by decide +kernel
theorem d_K_findSet_35 : decode prog_7_method_13_code 35 = .ok (.getfield 25, 3) := by decide +kernel
theorem d_K_findSet_38 : decode prog_7_method_13_code 38 = .ok (.iload_n 1, 1) := by decide +kernel
theorem d_K_findSet_39 : decode prog_7_method_13_code 39 = .ok (.dup2, 1) := by decide +kernel
theorem d_K_findSet_40 : decode prog_7_method_13_code 40 = .ok (.iaload, 1) := by decide +kernel
theorem d_K_findSet_41 : decode prog_7_method_13_code 41 = .ok (.aload_n 0, 1) := by decide +kernel
theorem d_K_findSet_42 : decode prog_7_method_13_code 42 = .ok (.getfield 22, 3) := by decide +kernel
theorem d_K_findSet_45 : decode prog_7_method_13_code 45 = .ok (.iload 4, 2) := by decide +kernel
theorem d_K_findSet_47 : decode prog_7_method_13_code 47 = .ok (.iaload, 1) := by decide +kernel
theorem d_K_findSet_48 : decode prog_7_method_13_code 48 = .ok (.iload_n 2, 1) := by decide +kernel
theorem d_K_findSet_49 : decode prog_7_method_13_code 49 = .ok (.iconst (-1), 1) := by decide +kernel
theorem d_K_findSet_50 : decode prog_7_method_13_code 50 = .ok (.ixor, 1) := by decide +kernel
theorem d_K_findSet_51 : decode prog_7_method_13_code 51 = .ok (.iand, 1) := by decide +kernel
theorem d_K_findSet_52 : decode prog_7_method_13_code 52 = .ok (.ixor, 1) := by decide +kernel
theorem d_K_findSet_53 : decode prog_7_method_13_code 53 = .ok (.iastore, 1) := by decide +kernel
theorem d_K_findSet_54 : decode prog_7_method_13_code 54 = .ok (.iinc 4 1, 3) := by decide +kernel
theorem d_K_findSet_57 : decode prog_7_method_13_code 57 = .ok (.goto (-42), 3) := by decide +kernel
theorem d_K_findSet_60 : decode prog_7_method_13_code 60 = .ok (.aload_n 0, 1) := by decide +kernel
theorem d_K_findSet_61 : decode prog_7_method_13_code 61 = .ok (.getfield 28, 3) := by decide +kernel
theorem d_K_findSet_64 : decode prog_7_method_13_code 64 = .ok (.iload_n 1, 1) := by decide +kernel
theorem d_K_findSet_65 : decode prog_7_method_13_code 65 = .ok (.iload_n 1, 1) := by decide +kernel
theorem d_K_findSet_66 : decode prog_7_method_13_code 66 = .ok (.iload_n 3, 1) := by decide +kernel
theorem d_K_findSet_67 : decode prog_7_method_13_code 67 = .ok (.if_icmp .ne 7, 3) := by decide +kernel
theorem d_K_findSet_70 : decode prog_7_method_13_code 70 = .ok (.iconst 0, 1) := by decide +kernel
theorem d_K_findSet_71 : decode prog_7_method_13_code 71 = .ok (.goto 4, 3) := by decide +kernel
theorem d_K_findSet_74 : decode prog_7_method_13_code 74 = .ok (.iconst (-1), 1) := by decide +kernel
theorem d_K_findSet_75 : decode prog_7_method_13_code 75 = .ok (.iastore, 1) := by decide +kernel
theorem d_K_findSet_76 : decode prog_7_method_13_code 76 = .ok (.aload_n 0, 1) := by decide +kernel
theorem d_K_findSet_77 : decode prog_7_method_13_code 77 = .ok (.getfield 31, 3) := by decide +kernel
theorem d_K_findSet_80 : decode prog_7_method_13_code 80 = .ok (.iload_n 1, 1) := by decide +kernel
theorem d_K_findSet_81 : decode prog_7_method_13_code 81 = .ok (.iconst 0, 1) := by decide +kernel
theorem d_K_findSet_82 : decode prog_7_method_13_code 82 = .ok (.iastore, 1) := by decide +kernel
theorem d_K_findSet_83 : decode prog_7_method_13_code 83 = .ok (.iload_n 3, 1) := by decide +kernel
theorem d_K_findSet_84 : decode prog_7_method_13_code 84 = .ok (.istore 4, 2) := by decide +kernel
theorem d_K_findSet_86 : decode prog_7_method_13_code 86 = .ok (.iload 4, 2) := by decide +kernel
theorem d_K_findSet_88 : decode prog_7_method_13_code 88 = .ok (.iload_n 1, 1) := by decide +kernel
theorem d_K_findSet_89 : decode prog_7_method_13_code 89 = .ok (.if_icmp .ge 114, 3) := by decide +kernel
theorem d_K_findSet_92 : decode prog_7_method_13_code 92 = .ok (.iload 4, 2) := by decide +kernel
theorem d_K_findSet_94 : decode prog_7_method_13_code 94 = .ok (.iload_n 1, 1) := by decide +kernel
theorem d_K_findSet_95 : decode prog_7_method_13_code 95 = .ok (.iconst (-1), 1) := by decide +kernel
theorem d_K_findSet_96 : decode prog_7_method_13_code 96 = .ok (.ixor, 1) := by decide +kernel
theorem d_K_findSet_97 : decode prog_7_method_13_code 97 = .ok (.iand, 1) := by decide +kernel
theorem d_K_findSet_98 : decode prog_7_method_13_code 98 = .ok (.ifCond .ne 99, 3) := by decide +kernel
theorem d_K_findSet_101 : decode prog_7_method_13_code 101 = .ok (.iload 4, 2) := by decide +kernel
theorem d_K_findSet_103 : decode prog_7_method_13_code 103 = .ok (.iload_n 3, 1) := by decide +kernel
theorem d_K_findSet_104 : decode prog_7_method_13_code 104 = .ok (.iand, 1) := by decide +kernel
theorem d_K_findSet_105 : decode prog_7_method_13_code 105 = .ok (.ifCond .ne 6, 3) := by decide +kernel
theorem d_K_findSet_108 : decode prog_7_method_13_code 108 = .ok (.goto 89, 3) := by decide +kernel
theorem d_K_findSet_111 : decode prog_7_method_13_code 111 = .ok (.iload_n 1, 1) := by decide +kernel
theorem d_K_findSet_112 : decode prog_7_method_13_code 112 = .ok (.iload 4, 2) := by decide +kernel
theorem d_K_findSet_114 : decode prog_7_method_13_code 114 = .ok (.iconst (-1), 1) := by decide +kernel
theorem d_K_findSet_115 : decode prog_7_method_13_code 115 = .ok (.ixor, 1) := by decide +kernel
theorem d_K_findSet_116 : decode prog_7_method_13_code 116 = .ok (.iand, 1) := by decide +kernel
theorem d_K_findSet_117 : decode prog_7_method_13_code 117 = .ok (.istore 5, 2) := by decide +kernel
theorem d_K_findSet_119 : decode prog_7_method_13_code 119 = .ok (.aload_n 0, 1) := by decide +kernel
theorem d_K_findSet_120 : decode prog_7_method_13_code 120 = .ok (.getfield 28, 3) := by decide +kernel
theorem d_K_findSet_123 : decode prog_7_method_13_code 123 = .ok (.iload 4, 2) := by decide +kernel
theorem d_K_findSet_125 : decode prog_7_method_13_code 125 = .ok (.iaload, 1) := by decide +kernel
theorem d_K_findSet_126 : decode prog_7_method_13_code 126 = .ok (.aload_n 0, 1) := by decide +kernel
theorem d_K_findSet_127 : decode prog_7_method_13_code 127 = .ok (.getfield 28, 3) := by decide +kernel
theorem d_K_findSet_130 : decode prog_7_method_13_code 130 = .ok (.iload 5, 2) := by decide +kernel
theorem d_K_findSet_132 : decode prog_7_method_13_code 132 = .ok (.iaload, 1) := by decide +kernel
theorem d_K_findSet_133 : decode prog_7_method_13_code 133 = .ok (.iadd, 1) := by decide +kernel
theorem d_K_findSet_134 : decode prog_7_method_13_code 134 = .ok (.iconst 1, 1) := by decide +kernel
theorem d_K_findSet_135 : decode prog_7_method_13_code 135 = .ok (.aload_n 0, 1) := by decide +kernel
theorem d_K_findSet_136 : decode prog_7_method_13_code 136 = .ok (.getfield 25, 3) := by decide +kernel
theorem d_K_findSet_139 : decode prog_7_method_13_code 139 = .ok (.iload 4, 2) := by decide +kernel
theorem d_K_findSet_141 : decode prog_7_method_13_code 141 = .ok (.iaload, 1) := by decide +kernel
theorem d_K_findSet_142 : decode prog_7_method_13_code 142 = .ok (.aload_n 0, 1) := by decide +kernel
theorem d_K_findSet_143 : decode prog_7_method_13_code 143 = .ok (.getfield 25, 3) := by decide +kernel
theorem d_K_findSet_146 : decode prog_7_method_13_code 146 = .ok (.iload 5, 2) := by decide +kernel
theorem d_K_findSet_148 : decode prog_7_method_13_code 148 = .ok (.iaload, 1) := by decide +kernel
theorem d_K_findSet_149 : decode prog_7_method_13_code 149 = .ok (.ior, 1) := by decide +kernel
theorem d_K_findSet_150 : decode prog_7_method_13_code 150 = .ok (.invokestatic 94, 3) := by decide +kernel
theorem d_K_findSet_153 : decode prog_7_method_13_code 153 = .ok (.ishl, 1) := by decide +kernel
theorem d_K_findSet_154 : decode prog_7_method_13_code 154 = .ok (.iadd, 1) := by decide +kernel
theorem d_K_findSet_155 : decode prog_7_method_13_code 155 = .ok (.istore 6, 2) := by decide +kernel
theorem d_K_findSet_157 : decode prog_7_method_13_code 157 = .ok (.aload_n 0, 1) := by decide +kernel
theorem d_K_findSet_158 : decode prog_7_method_13_code 158 = .ok (.getfield 28, 3) := by decide +kernel
theorem d_K_findSet_161 : decode prog_7_method_13_code 161 = .ok (.iload_n 1, 1) := by decide +kernel
theorem d_K_findSet_162 : decode prog_7_method_13_code 162 = .ok (.iaload, 1) := by decide +kernel
theorem d_K_findSet_163 : decode prog_7_method_13_code 163 = .ok (.iconst (-1), 1) := by decide +kernel
theorem d_K_findSet_164 : decode prog_7_method_13_code 164 = .ok (.if_icmp .eq 17, 3) := by decide +kernel
theorem d_K_findSet_167 : decode prog_7_method_13_code 167 = .ok (.iload 6, 2) := by decide +kernel
theorem d_K_findSet_169 : decode prog_7_method_13_code 169 = .ok (.aload_n 0, 1) := by decide +kernel
theorem d_K_findSet_170 : decode prog_7_method_13_code 170 = .ok (.getfield 28, 3) := by decide +kernel
theorem d_K_findSet_173 : decode prog_7_method_13_code 173 = .ok (.iload_n 1, 1) := by decide +kernel
theorem d_K_findSet_174 : decode prog_7_method_13_code 174 = .ok (.iaload, 1) := by decide +kernel
theorem d_K_findSet_175 : decode prog_7_method_13_code 175 = .ok (.if_icmp .lt 6, 3) := by decide +kernel
theorem d_K_findSet_178 : decode prog_7_method_13_code 178 = .ok (.goto 19, 3) := by decide +kernel
theorem d_K_findSet_181 : decode prog_7_method_13_code 181 = .ok (.aload_n 0, 1) := by decide +kernel
theorem d_K_findSet_182 : decode prog_7_method_13_code 182 = .ok (.getfield 28, 3) := by decide +kernel
theorem d_K_findSet_185 : decode prog_7_method_13_code 185 = .ok (.iload_n 1, 1) := by decide +kernel
theorem d_K_findSet_186 : decode prog_7_method_13_code 186 = .ok (.iload 6, 2) := by decide +kernel
theorem d_K_findSet_188 : decode prog_7_method_13_code 188 = .ok (.iastore, 1) := by decide +kernel
theorem d_K_findSet_189 : decode prog_7_method_13_code 189 = .ok (.aload_n 0, 1) := by decide +kernel
theorem d_K_findSet_190 : decode prog_7_method_13_code 190 = .ok (.getfield 31, 3) := by decide +kernel
theorem d_K_findSet_193 : decode prog_7_method_13_code 193 = .ok (.iload_n 1, 1) := by decide +kernel
theorem d_K_findSet_194 : decode prog_7_method_13_code 194 = .ok (.iload 4, 2) := by decide +kernel
theorem d_K_findSet_196 : decode prog_7_method_13_code 196 = .ok (.iastore, 1) := by decide +kernel
theorem d_K_findSet_197 : decode prog_7_method_13_code 197 = .ok (.iinc 4 1, 3) := by decide +kernel
theorem d_K_findSet_200 : decode prog_7_method_13_code 200 = .ok (.goto (-114), 3) := by decide +kernel
theorem d_K_findSet_203 : decode prog_7_method_13_code 203 = .ok (.return_, 1) := by decide +kernel
theorem d_K_count_0 : decode prog_7_method_5_code 0 = .ok (.iconst 0, 1) := by decide +kernel
theorem d_K_count_1 : decode prog_7_method_5_code 1 = .ok (.istore_n 1, 1) := by decide +kernel
theorem d_K_count_2 : decode prog_7_method_5_code 2 = .ok (.iconst 0, 1) := by decide +kernel
theorem d_K_count_3 : decode prog_7_method_5_code 3 = .ok (.istore_n 2, 1) := by decide +kernel
theorem d_K_count_4 : decode prog_7_method_5_code 4 = .ok (.iload_n 2, 1) := by decide +kernel
theorem d_K_count_5 : decode prog_7_method_5_code 5 = .ok (.bipush 20, 2) := by decide +kernel
theorem d_K_count_7 : decode prog_7_method_5_code 7 = .ok (.if_icmp .ge 17, 3) := by decide +kernel
theorem d_K_count_10 : decode prog_7_method_5_code 10 = .ok (.iload_n 1, 1) := by decide +kernel
theorem d_K_count_11 : decode prog_7_method_5_code 11 = .ok (.iload_n 0, 1) := by decide +kernel
theorem d_K_count_12 : decode prog_7_method_5_code 12 = .ok (.iload_n 2, 1) := by decide +kernel
theorem d_K_count_13 : decode prog_7_method_5_code 13 = .ok (.ishr, 1) := by decide +kernel
theorem d_K_count_14 : decode prog_7_method_5_code 14 = .ok (.iconst 1, 1) := by decide +kernel
theorem d_K_count_15 : decode prog_7_method_5_code 15 = .ok (.iand, 1) := by decide +kernel
theorem d_K_count_16 : decode prog_7_method_5_code 16 = .ok (.iadd, 1) := by decide +kernel
theorem d_K_count_17 : decode prog_7_method_5_code 17 = .ok (.istore_n 1, 1) := by decide +kernel
theorem d_K_count_18 : decode prog_7_method_5_code 18 = .ok (.iinc 2 1, 3) := by decide +kernel
theorem d_K_count_21 : decode prog_7_method_5_code 21 = .ok (.goto (-17), 3) := by decide +kernel
theorem d_K_count_24 : decode prog_7_method_5_code 24 = .ok (.iload_n 1, 1) := by decide +kernel
theorem d_K_count_25 : decode prog_7_method_5_code 25 = .ok (.ireturn, 1) := by decide +kernel
theorem d_K_peak_0 : decode prog_7_method_19_code 0 = .ok (.aload_n 0, 1) := by decide +kernel
theorem d_K_peak_1 : decode prog_7_method_19_code 1 = .ok (.iconst 0, 1) := by decide +kernel
theorem d_K_peak_2 : decode prog_7_method_19_code 2 = .ok (.putfield 69, 3) := by decide +kernel
theorem d_K_peak_5 : decode prog_7_method_19_code 5 = .ok (.aload_n 0, 1) := by decide +kernel
theorem d_K_peak_6 : decode prog_7_method_19_code 6 = .ok (.invokevirtual 90, 3) := by decide +kernel
theorem d_K_peak_9 : decode prog_7_method_19_code 9 = .ok (.ifCond .ne 5, 3) := by decide +kernel
theorem d_K_peak_12 : decode prog_7_method_19_code 12 = .ok (.iconst (-1), 1) := by decide +kernel
theorem d_K_peak_13 : decode prog_7_method_19_code 13 = .ok (.ireturn, 1) := by decide +kernel
theorem d_K_peak_14 : decode prog_7_method_19_code 14 = .ok (.aload_n 0, 1) := by decide +kernel
theorem d_K_peak_15 : decode prog_7_method_19_code 15 = .ok (.iconst 0, 1) := by decide +kernel
theorem d_K_peak_16 : decode prog_7_method_19_code 16 = .ok (.invokevirtual 112, 3) := by decide +kernel
theorem d_K_peak_19 : decode prog_7_method_19_code 19 = .ok (.aload_n 0, 1) := by decide +kernel
theorem d_K_peak_20 : decode prog_7_method_19_code 20 = .ok (.invokevirtual 116, 3) := by decide +kernel
theorem d_K_peak_23 : decode prog_7_method_19_code 23 = .ok (.ireturn, 1) := by decide +kernel
theorem d_K_peakNow_0 : decode prog_7_method_17_code 0 = .ok (.iconst 0, 1) := by decide +kernel
theorem d_K_peakNow_1 : decode prog_7_method_17_code 1 = .ok (.istore_n 1, 1) := by decide +kernel
theorem d_K_peakNow_2 : decode prog_7_method_17_code 2 = .ok (.iconst 0, 1) := by decide +kernel
theorem d_K_peakNow_3 : decode prog_7_method_17_code 3 = .ok (.istore_n 2, 1) := by decide +kernel
theorem d_K_peakNow_4 : decode prog_7_method_17_code 4 = .ok (.iload_n 2, 1) := by decide +kernel
theorem d_K_peakNow_5 : decode prog_7_method_17_code 5 = .ok (.aload_n 0, 1) := by decide +kernel
theorem d_K_peakNow_6 : decode prog_7_method_17_code 6 = .ok (.getfield 73, 3) := by decide +kernel
theorem d_K_peakNow_9 : decode prog_7_method_17_code 9 = .ok (.if_icmp .ge 40, 3) := by decide +kernel
theorem d_K_peakNow_12 : decode prog_7_method_17_code 12 = .ok (.aload_n 0, 1) := by decide +kernel
theorem d_K_peakNow_13 : decode prog_7_method_17_code 13 = .ok (.getfield 25, 3) := by decide +kernel
theorem d_K_peakNow_16 : decode prog_7_method_17_code 16 = .ok (.iconst 1, 1) := by decide +kernel
theorem d_K_peakNow_17 : decode prog_7_method_17_code 17 = .ok (.iload_n 2, 1) := by decide +kernel
theorem d_K_peakNow_18 : decode prog_7_method_17_code 18 = .ok (.ishl, 1) := by decide +kernel
theorem d_K_peakNow_19 : decode prog_7_method_17_code 19 = .ok (.iaload, 1) := by decide +kernel
theorem d_K_peakNow_20 : decode prog_7_method_17_code 20 = .ok (.invokestatic 94, 3) := by decide +kernel
theorem d_K_peakNow_23 : decode prog_7_method_17_code 23 = .ok (.iload_n 1, 1) := by decide +kernel
theorem d_K_peakNow_24 : decode prog_7_method_17_code 24 = .ok (.if_icmp .le 17, 3) := by decide +kernel
theorem d_K_peakNow_27 : decode prog_7_method_17_code 27 = .ok (.aload_n 0, 1) := by decide +kernel
theorem d_K_peakNow_28 : decode prog_7_method_17_code 28 = .ok (.getfield 25, 3) := by decide +kernel
theorem d_K_peakNow_31 : decode prog_7_method_17_code 31 = .ok (.iconst 1, 1) := by decide +kernel
theorem d_K_peakNow_32 : decode prog_7_method_17_code 32 = .ok (.iload_n 2, 1) := by decide +kernel
theorem d_K_peakNow_33 : decode prog_7_method_17_code 33 = .ok (.ishl, 1) := by decide +kernel
theorem d_K_peakNow_34 : decode prog_7_method_17_code 34 = .ok (.iaload, 1) := by decide +kernel
theorem d_K_peakNow_35 : decode prog_7_method_17_code 35 = .ok (.invokestatic 94, 3) := by decide +kernel
theorem d_K_peakNow_38 : decode prog_7_method_17_code 38 = .ok (.goto 4, 3) := by decide +kernel
theorem d_K_peakNow_41 : decode prog_7_method_17_code 41 = .ok (.iload_n 1, 1) := by decide +kernel
theorem d_K_peakNow_42 : decode prog_7_method_17_code 42 = .ok (.istore_n 1, 1) := by decide +kernel
theorem d_K_peakNow_43 : decode prog_7_method_17_code 43 = .ok (.iinc 2 1, 3) := by decide +kernel
theorem d_K_peakNow_46 : decode prog_7_method_17_code 46 = .ok (.goto (-42), 3) := by decide +kernel
theorem d_K_peakNow_49 : decode prog_7_method_17_code 49 = .ok (.aload_n 0, 1) := by decide +kernel
theorem d_K_peakNow_50 : decode prog_7_method_17_code 50 = .ok (.invokevirtual 109, 3) := by decide +kernel
theorem d_K_peakNow_53 : decode prog_7_method_17_code 53 = .ok (.iconst 0, 1) := by decide +kernel
theorem d_K_peakNow_54 : decode prog_7_method_17_code 54 = .ok (.istore_n 2, 1) := by decide +kernel
theorem d_K_peakNow_55 : decode prog_7_method_17_code 55 = .ok (.iload_n 2, 1) := by decide +kernel
theorem d_K_peakNow_56 : decode prog_7_method_17_code 56 = .ok (.aload_n 0, 1) := by decide +kernel
theorem d_K_peakNow_57 : decode prog_7_method_17_code 57 = .ok (.getfield 106, 3) := by decide +kernel
theorem d_K_peakNow_60 : decode prog_7_method_17_code 60 = .ok (.if_icmp .ge 46, 3) := by decide +kernel
theorem d_K_peakNow_63 : decode prog_7_method_17_code 63 = .ok (.aload_n 0, 1) := by decide +kernel
theorem d_K_peakNow_64 : decode prog_7_method_17_code 64 = .ok (.getfield 25, 3) := by decide +kernel
theorem d_K_peakNow_67 : decode prog_7_method_17_code 67 = .ok (.aload_n 0, 1) := by decide +kernel
theorem d_K_peakNow_68 : decode prog_7_method_17_code 68 = .ok (.getfield 34, 3) := by decide +kernel
theorem d_K_peakNow_71 : decode prog_7_method_17_code 71 = .ok (.iload_n 2, 1) := by decide +kernel
theorem d_K_peakNow_72 : decode prog_7_method_17_code 72 = .ok (.iaload, 1) := by decide +kernel
theorem d_K_peakNow_73 : decode prog_7_method_17_code 73 = .ok (.iaload, 1) := by decide +kernel
theorem d_K_peakNow_74 : decode prog_7_method_17_code 74 = .ok (.invokestatic 94, 3) := by decide +kernel
theorem d_K_peakNow_77 : decode prog_7_method_17_code 77 = .ok (.iload_n 1, 1) := by decide +kernel
theorem d_K_peakNow_78 : decode prog_7_method_17_code 78 = .ok (.if_icmp .le 20, 3) := by decide +kernel
theorem d_K_peakNow_81 : decode prog_7_method_17_code 81 = .ok (.aload_n 0, 1) := by decide +kernel
theorem d_K_peakNow_82 : decode prog_7_method_17_code 82 = .ok (.getfield 25, 3) := by decide +kernel
theorem d_K_peakNow_85 : decode prog_7_method_17_code 85 = .ok (.aload_n 0, 1) := by decide +kernel
theorem d_K_peakNow_86 : decode prog_7_method_17_code 86 = .ok (.getfield 34, 3) := by decide +kernel
theorem d_K_peakNow_89 : decode prog_7_method_17_code 89 = .ok (.iload_n 2, 1) := by decide +kernel
theorem d_K_peakNow_90 : decode prog_7_method_17_code 90 = .ok (.iaload, 1) := by decide +kernel
theorem d_K_peakNow_91 : decode prog_7_method_17_code 91 = .ok (.iaload, 1) := by decide +kernel
theorem d_K_peakNow_92 : decode prog_7_method_17_code 92 = .ok (.invokestatic 94, 3) := by decide +kernel
theorem d_K_peakNow_95 : decode prog_7_method_17_code 95 = .ok (.goto 4, 3) := by decide +kernel
theorem d_K_peakNow_98 : decode prog_7_method_17_code 98 = .ok (.iload_n 1, 1) := by decide +kernel
theorem d_K_peakNow_99 : decode prog_7_method_17_code 99 = .ok (.istore_n 1, 1) := by decide +kernel
theorem d_K_peakNow_100 : decode prog_7_method_17_code 100 = .ok (.iinc 2 1, 3) := by decide +kernel
theorem d_K_peakNow_103 : decode prog_7_method_17_code 103 = .ok (.goto (-48), 3) := by decide +kernel
theorem d_K_peakNow_106 : decode prog_7_method_17_code 106 = .ok (.iload_n 1, 1) := by decide +kernel
theorem d_K_peakNow_107 : decode prog_7_method_17_code 107 = .ok (.ireturn, 1) := by decide +kernel
theorem d_K_findSteps_0 : decode prog_7_method_16_code 0 = .ok (.aload_n 0, 1) := by decide +kernel
theorem d_K_findSteps_1 : decode prog_7_method_16_code 1 = .ok (.iconst 0, 1) := by decide +kernel
theorem d_K_findSteps_2 : decode prog_7_method_16_code 2 = .ok (.putfield 106, 3) := by decide +kernel
theorem d_K_findSteps_5 : decode prog_7_method_16_code 5 = .ok (.iconst 1, 1) := by decide +kernel
theorem d_K_findSteps_6 : decode prog_7_method_16_code 6 = .ok (.istore_n 1, 1) := by decide +kernel
theorem d_K_findSteps_7 : decode prog_7_method_16_code 7 = .ok (.aload_n 0, 1) := by decide +kernel
theorem d_K_findSteps_8 : decode prog_7_method_16_code 8 = .ok (.getfield 37, 3) := by decide +kernel
theorem d_K_findSteps_11 : decode prog_7_method_16_code 11 = .ok (.iconst 0, 1) := by decide +kernel
theorem d_K_findSteps_12 : decode prog_7_method_16_code 12 = .ok (.aload_n 0, 1) := by decide +kernel
theorem d_K_findSteps_13 : decode prog_7_method_16_code 13 = .ok (.invokevirtual 98, 3) := by decide +kernel
theorem d_K_findSteps_16 : decode prog_7_method_16_code 16 = .ok (.iastore, 1) := by decide +kernel
theorem d_K_findSteps_17 : decode prog_7_method_16_code 17 = .ok (.iload_n 1, 1) := by decide +kernel
theorem d_K_findSteps_18 : decode prog_7_method_16_code 18 = .ok (.ifCond .le 81, 3) := by decide +kernel
theorem d_K_findSteps_21 : decode prog_7_method_16_code 21 = .ok (.iinc 1 (-1), 3) := by decide +kernel
theorem d_K_findSteps_24 : decode prog_7_method_16_code 24 = .ok (.aload_n 0, 1) := by decide +kernel
theorem d_K_findSteps_25 : decode prog_7_method_16_code 25 = .ok (.getfield 37, 3) := by decide +kernel
theorem d_K_findSteps_28 : decode prog_7_method_16_code 28 = .ok (.iload_n 1, 1) := by decide +kernel
theorem d_K_findSteps_29 : decode prog_7_method_16_code 29 = .ok (.iaload, 1) := by decide +kernel
theorem d_K_findSteps_30 : decode prog_7_method_16_code 30 = .ok (.istore_n 2, 1) := by decide +kernel
theorem d_K_findSteps_31 : decode prog_7_method_16_code 31 = .ok (.aload_n 0, 1) := by decide +kernel
theorem d_K_findSteps_32 : decode prog_7_method_16_code 32 = .ok (.getfield 31, 3) := by decide +kernel
theorem d_K_findSteps_35 : decode prog_7_method_16_code 35 = .ok (.iload_n 2, 1) := by decide +kernel
theorem d_K_findSteps_36 : decode prog_7_method_16_code 36 = .ok (.iaload, 1) := by decide +kernel
theorem d_K_findSteps_37 : decode prog_7_method_16_code 37 = .ok (.ifCond .ne 6, 3) := by decide +kernel
theorem d_K_findSteps_40 : decode prog_7_method_16_code 40 = .ok (.goto (-23), 3) := by decide +kernel
theorem d_K_findSteps_43 : decode prog_7_method_16_code 43 = .ok (.aload_n 0, 1) := by decide +kernel
theorem d_K_findSteps_44 : decode prog_7_method_16_code 44 = .ok (.getfield 34, 3) := by decide +kernel
theorem d_K_findSteps_47 : decode prog_7_method_16_code 47 = .ok (.aload_n 0, 1) := by decide +kernel
theorem d_K_findSteps_48 : decode prog_7_method_16_code 48 = .ok (.getfield 106, 3) := by decide +kernel
theorem d_K_findSteps_51 : decode prog_7_method_16_code 51 = .ok (.iload_n 2, 1) := by decide +kernel
theorem d_K_findSteps_52 : decode prog_7_method_16_code 52 = .ok (.iastore, 1) := by decide +kernel
theorem d_K_findSteps_53 : decode prog_7_method_16_code 53 = .ok (.aload_n 0, 1) := by decide +kernel
theorem d_K_findSteps_54 : decode prog_7_method_16_code 54 = .ok (.dup, 1) := by decide +kernel
theorem d_K_findSteps_55 : decode prog_7_method_16_code 55 = .ok (.getfield 106, 3) := by decide +kernel
theorem d_K_findSteps_58 : decode prog_7_method_16_code 58 = .ok (.iconst 1, 1) := by decide +kernel
theorem d_K_findSteps_59 : decode prog_7_method_16_code 59 = .ok (.iadd, 1) := by decide +kernel
theorem d_K_findSteps_60 : decode prog_7_method_16_code 60 = .ok (.putfield 106, 3) := by decide +kernel
theorem d_K_findSteps_63 : decode prog_7_method_16_code 63 = .ok (.aload_n 0, 1) := by decide +kernel
theorem d_K_findSteps_64 : decode prog_7_method_16_code 64 = .ok (.getfield 37, 3) := by decide +kernel
theorem d_K_findSteps_67 : decode prog_7_method_16_code 67 = .ok (.iload_n 1, 1) := by decide +kernel
theorem d_K_findSteps_68 : decode prog_7_method_16_code 68 = .ok (.aload_n 0, 1) := by decide +kernel
theorem d_K_findSteps_69 : decode prog_7_method_16_code 69 = .ok (.getfield 31, 3) := by decide +kernel
theorem d_K_findSteps_72 : decode prog_7_method_16_code 72 = .ok (.iload_n 2, 1) := by decide +kernel
theorem d_K_findSteps_73 : decode prog_7_method_16_code 73 = .ok (.iaload, 1) := by decide +kernel
theorem d_K_findSteps_74 : decode prog_7_method_16_code 74 = .ok (.iastore, 1) := by decide +kernel
theorem d_K_findSteps_75 : decode prog_7_method_16_code 75 = .ok (.aload_n 0, 1) := by decide +kernel
theorem d_K_findSteps_76 : decode prog_7_method_16_code 76 = .ok (.getfield 37, 3) := by decide +kernel
theorem d_K_findSteps_79 : decode prog_7_method_16_code 79 = .ok (.iload_n 1, 1) := by decide +kernel
theorem d_K_findSteps_80 : decode prog_7_method_16_code 80 = .ok (.iconst 1, 1) := by decide +kernel
theorem d_K_findSteps_81 : decode prog_7_method_16_code 81 = .ok (.iadd, 1) := by decide +kernel
theorem d_K_findSteps_82 : decode prog_7_method_16_code 82 = .ok (.iload_n 2, 1) := by decide +kernel
theorem d_K_findSteps_83 : decode prog_7_method_16_code 83 = .ok (.aload_n 0, 1) := by decide +kernel
theorem d_K_findSteps_84 : decode prog_7_method_16_code 84 = .ok (.getfield 31, 3) := by decide +kernel
theorem d_K_findSteps_87 : decode prog_7_method_16_code 87 = .ok (.iload_n 2, 1) := by decide +kernel
theorem d_K_findSteps_88 : decode prog_7_method_16_code 88 = .ok (.iaload, 1) := by decide +kernel
theorem d_K_findSteps_89 : decode prog_7_method_16_code 89 = .ok (.iconst (-1), 1) := by decide +kernel
theorem d_K_findSteps_90 : decode prog_7_method_16_code 90 = .ok (.ixor, 1) := by decide +kernel
theorem d_K_findSteps_91 : decode prog_7_method_16_code 91 = .ok (.iand, 1) := by decide +kernel
theorem d_K_findSteps_92 : decode prog_7_method_16_code 92 = .ok (.iastore, 1) := by decide +kernel
theorem d_K_findSteps_93 : decode prog_7_method_16_code 93 = .ok (.iinc 1 2, 3) := by decide +kernel
theorem d_K_findSteps_96 : decode prog_7_method_16_code 96 = .ok (.goto (-79), 3) := by decide +kernel
theorem d_K_findSteps_99 : decode prog_7_method_16_code 99 = .ok (.return_, 1) := by decide +kernel
theorem d_K_step_0 : decode prog_7_method_20_code 0 = .ok (.aload_n 0, 1) := by decide +kernel
theorem d_K_step_1 : decode prog_7_method_20_code 1 = .ok (.iconst 0, 1) := by decide +kernel
theorem d_K_step_2 : decode prog_7_method_20_code 2 = .ok (.putfield 69, 3) := by decide +kernel
theorem d_K_step_5 : decode prog_7_method_20_code 5 = .ok (.aload_n 0, 1) := by decide +kernel
theorem d_K_step_6 : decode prog_7_method_20_code 6 = .ok (.invokevirtual 90, 3) := by decide +kernel
theorem d_K_step_9 : decode prog_7_method_20_code 9 = .ok (.ifCond .eq 12, 3) := by decide +kernel
theorem d_K_step_12 : decode prog_7_method_20_code 12 = .ok (.iload_n 2, 1) := by decide +kernel
theorem d_K_step_13 : decode prog_7_method_20_code 13 = .ok (.ifCond .lt 8, 3) := by decide +kernel
theorem d_K_step_16 : decode prog_7_method_20_code 16 = .ok (.iload_n 2, 1) := by decide +kernel
theorem d_K_step_17 : decode prog_7_method_20_code 17 = .ok (.iconst 1, 1) := by decide +kernel
theorem d_K_step_18 : decode prog_7_method_20_code 18 = .ok (.if_icmp .le 5, 3) := by decide +kernel
theorem d_K_step_21 : decode prog_7_method_20_code 21 = .ok (.iconst (-1), 1) := by decide +kernel
theorem d_K_step_22 : decode prog_7_method_20_code 22 = .ok (.ireturn, 1) := by decide +kernel
theorem d_K_step_23 : decode prog_7_method_20_code 23 = .ok (.aload_n 0, 1) := by decide +kernel
theorem d_K_step_24 : decode prog_7_method_20_code 24 = .ok (.iconst 0, 1) := by decide +kernel
theorem d_K_step_25 : decode prog_7_method_20_code 25 = .ok (.invokevirtual 112, 3) := by decide +kernel
theorem d_K_step_28 : decode prog_7_method_20_code 28 = .ok (.aload_n 0, 1) := by decide +kernel
theorem d_K_step_29 : decode prog_7_method_20_code 29 = .ok (.invokevirtual 109, 3) := by decide +kernel
theorem d_K_step_32 : decode prog_7_method_20_code 32 = .ok (.iload_n 1, 1) := by decide +kernel
theorem d_K_step_33 : decode prog_7_method_20_code 33 = .ok (.ifCond .lt 11, 3) := by decide +kernel
theorem d_K_step_36 : decode prog_7_method_20_code 36 = .ok (.iload_n 1, 1) := by decide +kernel
theorem d_K_step_37 : decode prog_7_method_20_code 37 = .ok (.aload_n 0, 1) := by decide +kernel
theorem d_K_step_38 : decode prog_7_method_20_code 38 = .ok (.getfield 106, 3) := by decide +kernel
theorem d_K_step_41 : decode prog_7_method_20_code 41 = .ok (.if_icmp .lt 5, 3) := by decide +kernel
theorem d_K_step_44 : decode prog_7_method_20_code 44 = .ok (.iconst (-1), 1) := by decide +kernel
theorem d_K_step_45 : decode prog_7_method_20_code 45 = .ok (.ireturn, 1) := by decide +kernel
theorem d_K_step_46 : decode prog_7_method_20_code 46 = .ok (.aload_n 0, 1) := by decide +kernel
theorem d_K_step_47 : decode prog_7_method_20_code 47 = .ok (.getfield 34, 3) := by decide +kernel
theorem d_K_step_50 : decode prog_7_method_20_code 50 = .ok (.aload_n 0, 1) := by decide +kernel
theorem d_K_step_51 : decode prog_7_method_20_code 51 = .ok (.getfield 106, 3) := by decide +kernel
theorem d_K_step_54 : decode prog_7_method_20_code 54 = .ok (.iconst 1, 1) := by decide +kernel
theorem d_K_step_55 : decode prog_7_method_20_code 55 = .ok (.isub, 1) := by decide +kernel
theorem d_K_step_56 : decode prog_7_method_20_code 56 = .ok (.iload_n 1, 1) := by decide +kernel
theorem d_K_step_57 : decode prog_7_method_20_code 57 = .ok (.isub, 1) := by decide +kernel
theorem d_K_step_58 : decode prog_7_method_20_code 58 = .ok (.iaload, 1) := by decide +kernel
theorem d_K_step_59 : decode prog_7_method_20_code 59 = .ok (.istore_n 3, 1) := by decide +kernel
theorem d_K_step_60 : decode prog_7_method_20_code 60 = .ok (.iload_n 2, 1) := by decide +kernel
theorem d_K_step_61 : decode prog_7_method_20_code 61 = .ok (.ifCond .ne 12, 3) := by decide +kernel
theorem d_K_step_64 : decode prog_7_method_20_code 64 = .ok (.aload_n 0, 1) := by decide +kernel
theorem d_K_step_65 : decode prog_7_method_20_code 65 = .ok (.getfield 31, 3) := by decide +kernel
theorem d_K_step_68 : decode prog_7_method_20_code 68 = .ok (.iload_n 3, 1) := by decide +kernel
theorem d_K_step_69 : decode prog_7_method_20_code 69 = .ok (.iaload, 1) := by decide +kernel
theorem d_K_step_70 : decode prog_7_method_20_code 70 = .ok (.goto 13, 3) := by decide +kernel
theorem d_K_step_73 : decode prog_7_method_20_code 73 = .ok (.iload_n 3, 1) := by decide +kernel
theorem d_K_step_74 : decode prog_7_method_20_code 74 = .ok (.aload_n 0, 1) := by decide +kernel
theorem d_K_step_75 : decode prog_7_method_20_code 75 = .ok (.getfield 31, 3) := by decide +kernel
theorem d_K_step_78 : decode prog_7_method_20_code 78 = .ok (.iload_n 3, 1) := by decide +kernel
theorem d_K_step_79 : decode prog_7_method_20_code 79 = .ok (.iaload, 1) := by decide +kernel
theorem d_K_step_80 : decode prog_7_method_20_code 80 = .ok (.iconst (-1), 1) := by decide +kernel
theorem d_K_step_81 : decode prog_7_method_20_code 81 = .ok (.ixor, 1) := by decide +kernel
theorem d_K_step_82 : decode prog_7_method_20_code 82 = .ok (.iand, 1) := by decide +kernel
theorem d_K_step_83 : decode prog_7_method_20_code 83 = .ok (.ireturn, 1) := by decide +kernel
theorem d_K_cut_0 : decode prog_7_method_21_code 0 = .ok (.aload_n 0, 1) := by decide +kernel
theorem d_K_cut_1 : decode prog_7_method_21_code 1 = .ok (.iconst 0, 1) := by decide +kernel
theorem d_K_cut_2 : decode prog_7_method_21_code 2 = .ok (.putfield 69, 3) := by decide +kernel
theorem d_K_cut_5 : decode prog_7_method_21_code 5 = .ok (.aload_n 0, 1) := by decide +kernel
theorem d_K_cut_6 : decode prog_7_method_21_code 6 = .ok (.invokevirtual 90, 3) := by decide +kernel
theorem d_K_cut_9 : decode prog_7_method_21_code 9 = .ok (.ifCond .eq 7, 3) := by decide +kernel
theorem d_K_cut_12 : decode prog_7_method_21_code 12 = .ok (.iload_n 1, 1) := by decide +kernel
theorem d_K_cut_13 : decode prog_7_method_21_code 13 = .ok (.ifCond .ge 5, 3) := by decide +kernel
theorem d_K_cut_16 : decode prog_7_method_21_code 16 = .ok (.iconst (-1), 1) := by decide +kernel
theorem d_K_cut_17 : decode prog_7_method_21_code 17 = .ok (.ireturn, 1) := by decide +kernel
theorem d_K_cut_18 : decode prog_7_method_21_code 18 = .ok (.aload_n 0, 1) := by decide +kernel
theorem d_K_cut_19 : decode prog_7_method_21_code 19 = .ok (.iconst 0, 1) := by decide +kernel
theorem d_K_cut_20 : decode prog_7_method_21_code 20 = .ok (.iload_n 1, 1) := by decide +kernel
theorem d_K_cut_21 : decode prog_7_method_21_code 21 = .ok (.invokevirtual 119, 3) := by decide +kernel
theorem d_K_cut_24 : decode prog_7_method_21_code 24 = .ok (.ifCond .eq 5, 3) := by decide +kernel
theorem d_K_cut_27 : decode prog_7_method_21_code 27 = .ok (.iconst 0, 1) := by decide +kernel
theorem d_K_cut_28 : decode prog_7_method_21_code 28 = .ok (.ireturn, 1) := by decide +kernel
theorem d_K_cut_29 : decode prog_7_method_21_code 29 = .ok (.iconst 0, 1) := by decide +kernel
theorem d_K_cut_30 : decode prog_7_method_21_code 30 = .ok (.istore_n 2, 1) := by decide +kernel
theorem d_K_cut_31 : decode prog_7_method_21_code 31 = .ok (.iload_n 2, 1) := by decide +kernel
theorem d_K_cut_32 : decode prog_7_method_21_code 32 = .ok (.bipush 20, 2) := by decide +kernel
theorem d_K_cut_34 : decode prog_7_method_21_code 34 = .ok (.if_icmp .ge 36, 3) := by decide +kernel
theorem d_K_cut_37 : decode prog_7_method_21_code 37 = .ok (.aload_n 0, 1) := by decide +kernel
theorem d_K_cut_38 : decode prog_7_method_21_code 38 = .ok (.getfield 87, 3) := by decide +kernel
theorem d_K_cut_41 : decode prog_7_method_21_code 41 = .ok (.iload_n 2, 1) := by decide +kernel
theorem d_K_cut_42 : decode prog_7_method_21_code 42 = .ok (.ishr, 1) := by decide +kernel
theorem d_K_cut_43 : decode prog_7_method_21_code 43 = .ok (.iconst 1, 1) := by decide +kernel
theorem d_K_cut_44 : decode prog_7_method_21_code 44 = .ok (.iand, 1) := by decide +kernel
theorem d_K_cut_45 : decode prog_7_method_21_code 45 = .ok (.iconst 1, 1) := by decide +kernel
theorem d_K_cut_46 : decode prog_7_method_21_code 46 = .ok (.if_icmp .ne 18, 3) := by decide +kernel
theorem d_K_cut_49 : decode prog_7_method_21_code 49 = .ok (.aload_n 0, 1) := by decide +kernel
theorem d_K_cut_50 : decode prog_7_method_21_code 50 = .ok (.iconst 1, 1) := by decide +kernel
theorem d_K_cut_51 : decode prog_7_method_21_code 51 = .ok (.iload_n 2, 1) := by decide +kernel
theorem d_K_cut_52 : decode prog_7_method_21_code 52 = .ok (.ishl, 1) := by decide +kernel
theorem d_K_cut_53 : decode prog_7_method_21_code 53 = .ok (.iload_n 1, 1) := by decide +kernel
theorem d_K_cut_54 : decode prog_7_method_21_code 54 = .ok (.invokevirtual 119, 3) := by decide +kernel
theorem d_K_cut_57 : decode prog_7_method_21_code 57 = .ok (.ifCond .eq 7, 3) := by decide +kernel
theorem d_K_cut_60 : decode prog_7_method_21_code 60 = .ok (.iconst 1, 1) := by decide +kernel
theorem d_K_cut_61 : decode prog_7_method_21_code 61 = .ok (.iload_n 2, 1) := by decide +kernel
theorem d_K_cut_62 : decode prog_7_method_21_code 62 = .ok (.ishl, 1) := by decide +kernel
theorem d_K_cut_63 : decode prog_7_method_21_code 63 = .ok (.ireturn, 1) := by decide +kernel
theorem d_K_cut_64 : decode prog_7_method_21_code 64 = .ok (.iinc 2 1, 3) := by decide +kernel
theorem d_K_cut_67 : decode prog_7_method_21_code 67 = .ok (.goto (-36), 3) := by decide +kernel
theorem d_K_cut_70 : decode prog_7_method_21_code 70 = .ok (.iconst 0, 1) := by decide +kernel
theorem d_K_cut_71 : decode prog_7_method_21_code 71 = .ok (.istore_n 2, 1) := by decide +kernel
theorem d_K_cut_72 : decode prog_7_method_21_code 72 = .ok (.iload_n 2, 1) := by decide +kernel
theorem d_K_cut_73 : decode prog_7_method_21_code 73 = .ok (.bipush 20, 2) := by decide +kernel
theorem d_K_cut_75 : decode prog_7_method_21_code 75 = .ok (.if_icmp .ge 56, 3) := by decide +kernel
theorem d_K_cut_78 : decode prog_7_method_21_code 78 = .ok (.iconst 0, 1) := by decide +kernel
theorem d_K_cut_79 : decode prog_7_method_21_code 79 = .ok (.istore_n 3, 1) := by decide +kernel
theorem d_K_cut_80 : decode prog_7_method_21_code 80 = .ok (.iload_n 3, 1) := by decide +kernel
theorem d_K_cut_81 : decode prog_7_method_21_code 81 = .ok (.iload_n 2, 1) := by decide +kernel
theorem d_K_cut_82 : decode prog_7_method_21_code 82 = .ok (.if_icmp .ge 43, 3) := by decide +kernel
theorem d_K_cut_85 : decode prog_7_method_21_code 85 = .ok (.iconst 1, 1) := by decide +kernel
theorem d_K_cut_86 : decode prog_7_method_21_code 86 = .ok (.iload_n 3, 1) := by decide +kernel
theorem d_K_cut_87 : decode prog_7_method_21_code 87 = .ok (.ishl, 1) := by decide +kernel
theorem d_K_cut_88 : decode prog_7_method_21_code 88 = .ok (.iconst 1, 1) := by decide +kernel
theorem d_K_cut_89 : decode prog_7_method_21_code 89 = .ok (.iload_n 2, 1) := by decide +kernel
theorem d_K_cut_90 : decode prog_7_method_21_code 90 = .ok (.ishl, 1) := by decide +kernel
theorem d_K_cut_91 : decode prog_7_method_21_code 91 = .ok (.ior, 1) := by decide +kernel
theorem d_K_cut_92 : decode prog_7_method_21_code 92 = .ok (.istore 4, 2) := by decide +kernel
theorem d_K_cut_94 : decode prog_7_method_21_code 94 = .ok (.aload_n 0, 1) := by decide +kernel
theorem d_K_cut_95 : decode prog_7_method_21_code 95 = .ok (.getfield 87, 3) := by decide +kernel
theorem d_K_cut_98 : decode prog_7_method_21_code 98 = .ok (.iload 4, 2) := by decide +kernel
theorem d_K_cut_100 : decode prog_7_method_21_code 100 = .ok (.iand, 1) := by decide +kernel
theorem d_K_cut_101 : decode prog_7_method_21_code 101 = .ok (.iload 4, 2) := by decide +kernel
theorem d_K_cut_103 : decode prog_7_method_21_code 103 = .ok (.if_icmp .ne 16, 3) := by decide +kernel
theorem d_K_cut_106 : decode prog_7_method_21_code 106 = .ok (.aload_n 0, 1) := by decide +kernel
theorem d_K_cut_107 : decode prog_7_method_21_code 107 = .ok (.iload 4, 2) := by decide +kernel
theorem d_K_cut_109 : decode prog_7_method_21_code 109 = .ok (.iload_n 1, 1) := by decide +kernel
theorem d_K_cut_110 : decode prog_7_method_21_code 110 = .ok (.invokevirtual 119, 3) := by decide +kernel
theorem d_K_cut_113 : decode prog_7_method_21_code 113 = .ok (.ifCond .eq 6, 3) := by decide +kernel
theorem d_K_cut_116 : decode prog_7_method_21_code 116 = .ok (.iload 4, 2) := by decide +kernel
theorem d_K_cut_118 : decode prog_7_method_21_code 118 = .ok (.ireturn, 1) := by decide +kernel
theorem d_K_cut_119 : decode prog_7_method_21_code 119 = .ok (.iinc 3 1, 3) := by decide +kernel
theorem d_K_cut_122 : decode prog_7_method_21_code 122 = .ok (.goto (-42), 3) := by decide +kernel
theorem d_K_cut_125 : decode prog_7_method_21_code 125 = .ok (.iinc 2 1, 3) := by decide +kernel
theorem d_K_cut_128 : decode prog_7_method_21_code 128 = .ok (.goto (-56), 3) := by decide +kernel
theorem d_K_cut_131 : decode prog_7_method_21_code 131 = .ok (.iconst (-1), 1) := by decide +kernel
theorem d_K_cut_132 : decode prog_7_method_21_code 132 = .ok (.ireturn, 1) := by decide +kernel
theorem d_K_isEnough_0 : decode prog_7_method_22_code 0 = .ok (.aload_n 0, 1) := by decide +kernel
theorem d_K_isEnough_1 : decode prog_7_method_22_code 1 = .ok (.iload_n 1, 1) := by decide +kernel
theorem d_K_isEnough_2 : decode prog_7_method_22_code 2 = .ok (.invokevirtual 112, 3) := by decide +kernel
theorem d_K_isEnough_5 : decode prog_7_method_22_code 5 = .ok (.aload_n 0, 1) := by decide +kernel
theorem d_K_isEnough_6 : decode prog_7_method_22_code 6 = .ok (.invokevirtual 116, 3) := by decide +kernel
theorem d_K_isEnough_9 : decode prog_7_method_22_code 9 = .ok (.iload_n 2, 1) := by decide +kernel
theorem d_K_isEnough_10 : decode prog_7_method_22_code 10 = .ok (.if_icmp .gt 7, 3) := by decide +kernel
theorem d_K_isEnough_13 : decode prog_7_method_22_code 13 = .ok (.iconst 1, 1) := by decide +kernel
theorem d_K_isEnough_14 : decode prog_7_method_22_code 14 = .ok (.goto 4, 3) := by decide +kernel
theorem d_K_isEnough_17 : decode prog_7_method_22_code 17 = .ok (.iconst 0, 1) := by decide +kernel
theorem d_K_isEnough_18 : decode prog_7_method_22_code 18 = .ok (.ireturn, 1) := by decide +kernel
theorem d_K_costOf_0 : decode prog_7_method_23_code 0 = .ok (.aload_n 0, 1) := by decide +kernel
theorem d_K_costOf_1 : decode prog_7_method_23_code 1 = .ok (.iconst 0, 1) := by decide +kernel
theorem d_K_costOf_2 : decode prog_7_method_23_code 2 = .ok (.putfield 69, 3) := by decide +kernel
theorem d_K_costOf_5 : decode prog_7_method_23_code 5 = .ok (.aload_n 0, 1) := by decide +kernel
theorem d_K_costOf_6 : decode prog_7_method_23_code 6 = .ok (.invokevirtual 90, 3) := by decide +kernel
theorem d_K_costOf_9 : decode prog_7_method_23_code 9 = .ok (.ifCond .eq 18, 3) := by decide +kernel
theorem d_K_costOf_12 : decode prog_7_method_23_code 12 = .ok (.iload_n 1, 1) := by decide +kernel
theorem d_K_costOf_13 : decode prog_7_method_23_code 13 = .ok (.ifCond .lt 14, 3) := by decide +kernel
theorem d_K_costOf_16 : decode prog_7_method_23_code 16 = .ok (.iload_n 1, 1) := by decide +kernel
theorem d_K_costOf_17 : decode prog_7_method_23_code 17 = .ok (.aload_n 0, 1) := by decide +kernel
theorem d_K_costOf_18 : decode prog_7_method_23_code 18 = .ok (.getfield 87, 3) := by decide +kernel
theorem d_K_costOf_21 : decode prog_7_method_23_code 21 = .ok (.iconst (-1), 1) := by decide +kernel
theorem d_K_costOf_22 : decode prog_7_method_23_code 22 = .ok (.ixor, 1) := by decide +kernel
theorem d_K_costOf_23 : decode prog_7_method_23_code 23 = .ok (.iand, 1) := by decide +kernel
theorem d_K_costOf_24 : decode prog_7_method_23_code 24 = .ok (.ifCond .eq 5, 3) := by decide +kernel
theorem d_K_costOf_27 : decode prog_7_method_23_code 27 = .ok (.iconst (-1), 1) := by decide +kernel
theorem d_K_costOf_28 : decode prog_7_method_23_code 28 = .ok (.ireturn, 1) := by decide +kernel
theorem d_K_costOf_29 : decode prog_7_method_23_code 29 = .ok (.aload_n 0, 1) := by decide +kernel
theorem d_K_costOf_30 : decode prog_7_method_23_code 30 = .ok (.iload_n 1, 1) := by decide +kernel
theorem d_K_costOf_31 : decode prog_7_method_23_code 31 = .ok (.invokevirtual 112, 3) := by decide +kernel
theorem d_K_costOf_34 : decode prog_7_method_23_code 34 = .ok (.aload_n 0, 1) := by decide +kernel
theorem d_K_costOf_35 : decode prog_7_method_23_code 35 = .ok (.getfield 28, 3) := by decide +kernel
theorem d_K_costOf_38 : decode prog_7_method_23_code 38 = .ok (.aload_n 0, 1) := by decide +kernel
theorem d_K_costOf_39 : decode prog_7_method_23_code 39 = .ok (.invokevirtual 98, 3) := by decide +kernel
theorem d_K_costOf_42 : decode prog_7_method_23_code 42 = .ok (.iaload, 1) := by decide +kernel
theorem d_K_costOf_43 : decode prog_7_method_23_code 43 = .ok (.iload_n 1, 1) := by decide +kernel
theorem d_K_costOf_44 : decode prog_7_method_23_code 44 = .ok (.invokestatic 94, 3) := by decide +kernel
theorem d_K_costOf_47 : decode prog_7_method_23_code 47 = .ok (.ishl, 1) := by decide +kernel
theorem d_K_costOf_48 : decode prog_7_method_23_code 48 = .ok (.ireturn, 1) := by decide +kernel
theorem d_K_greedy_0 : decode prog_7_method_26_code 0 = .ok (.aload_n 0, 1) := by decide +kernel
theorem d_K_greedy_1 : decode prog_7_method_26_code 1 = .ok (.iconst 0, 1) := by decide +kernel
theorem d_K_greedy_2 : decode prog_7_method_26_code 2 = .ok (.putfield 69, 3) := by decide +kernel
theorem d_K_greedy_5 : decode prog_7_method_26_code 5 = .ok (.aload_n 0, 1) := by decide +kernel
theorem d_K_greedy_6 : decode prog_7_method_26_code 6 = .ok (.invokevirtual 90, 3) := by decide +kernel
theorem d_K_greedy_9 : decode prog_7_method_26_code 9 = .ok (.ifCond .ne 5, 3) := by decide +kernel
theorem d_K_greedy_12 : decode prog_7_method_26_code 12 = .ok (.iconst (-1), 1) := by decide +kernel
theorem d_K_greedy_13 : decode prog_7_method_26_code 13 = .ok (.ireturn, 1) := by decide +kernel
theorem d_K_greedy_14 : decode prog_7_method_26_code 14 = .ok (.aload_n 0, 1) := by decide +kernel
theorem d_K_greedy_15 : decode prog_7_method_26_code 15 = .ok (.iconst 0, 1) := by decide +kernel
theorem d_K_greedy_16 : decode prog_7_method_26_code 16 = .ok (.putfield 129, 3) := by decide +kernel
theorem d_K_greedy_19 : decode prog_7_method_26_code 19 = .ok (.aload_n 0, 1) := by decide +kernel
theorem d_K_greedy_20 : decode prog_7_method_26_code 20 = .ok (.iconst 0, 1) := by decide +kernel
theorem d_K_greedy_21 : decode prog_7_method_26_code 21 = .ok (.putfield 126, 3) := by decide +kernel
theorem d_K_greedy_24 : decode prog_7_method_26_code 24 = .ok (.iconst 0, 1) := by decide +kernel
theorem d_K_greedy_25 : decode prog_7_method_26_code 25 = .ok (.istore_n 2, 1) := by decide +kernel
theorem d_K_greedy_26 : decode prog_7_method_26_code 26 = .ok (.iload_n 2, 1) := by decide +kernel
theorem d_K_greedy_27 : decode prog_7_method_26_code 27 = .ok (.aload_n 0, 1) := by decide +kernel
theorem d_K_greedy_28 : decode prog_7_method_26_code 28 = .ok (.getfield 73, 3) := by decide +kernel
theorem d_K_greedy_31 : decode prog_7_method_26_code 31 = .ok (.if_icmp .ge 28, 3) := by decide +kernel
theorem d_K_greedy_34 : decode prog_7_method_26_code 34 = .ok (.aload_n 0, 1) := by decide +kernel
theorem d_K_greedy_35 : decode prog_7_method_26_code 35 = .ok (.getfield 40, 3) := by decide +kernel
theorem d_K_greedy_38 : decode prog_7_method_26_code 38 = .ok (.iload_n 2, 1) := by decide +kernel
theorem d_K_greedy_39 : decode prog_7_method_26_code 39 = .ok (.aload_n 0, 1) := by decide +kernel
theorem d_K_greedy_40 : decode prog_7_method_26_code 40 = .ok (.getfield 22, 3) := by decide +kernel
theorem d_K_greedy_43 : decode prog_7_method_26_code 43 = .ok (.iload_n 2, 1) := by decide +kernel
theorem d_K_greedy_44 : decode prog_7_method_26_code 44 = .ok (.iaload, 1) := by decide +kernel
theorem d_K_greedy_45 : decode prog_7_method_26_code 45 = .ok (.iastore, 1) := by decide +kernel
theorem d_K_greedy_46 : decode prog_7_method_26_code 46 = .ok (.aload_n 0, 1) := by decide +kernel
theorem d_K_greedy_47 : decode prog_7_method_26_code 47 = .ok (.getfield 43, 3) := by decide +kernel
theorem d_K_greedy_50 : decode prog_7_method_26_code 50 = .ok (.iload_n 2, 1) := by decide +kernel
theorem d_K_greedy_51 : decode prog_7_method_26_code 51 = .ok (.iconst 0, 1) := by decide +kernel
theorem d_K_greedy_52 : decode prog_7_method_26_code 52 = .ok (.bastore, 1) := by decide +kernel
theorem d_K_greedy_53 : decode prog_7_method_26_code 53 = .ok (.iinc 2 1, 3) := by decide +kernel
theorem d_K_greedy_56 : decode prog_7_method_26_code 56 = .ok (.goto (-30), 3) := by decide +kernel
theorem d_K_greedy_59 : decode prog_7_method_26_code 59 = .ok (.aload_n 0, 1) := by decide +kernel
theorem d_K_greedy_60 : decode prog_7_method_26_code 60 = .ok (.getfield 73, 3) := by decide +kernel
theorem d_K_greedy_63 : decode prog_7_method_26_code 63 = .ok (.istore_n 2, 1) := by decide +kernel
theorem d_K_greedy_64 : decode prog_7_method_26_code 64 = .ok (.iload_n 2, 1) := by decide +kernel
theorem d_K_greedy_65 : decode prog_7_method_26_code 65 = .ok (.iconst 2, 1) := by decide +kernel
theorem d_K_greedy_66 : decode prog_7_method_26_code 66 = .ok (.aload_n 0, 1) := by decide +kernel
theorem d_K_greedy_67 : decode prog_7_method_26_code 67 = .ok (.getfield 73, 3) := by decide +kernel
theorem d_K_greedy_70 : decode prog_7_method_26_code 70 = .ok (.imul, 1) := by decide +kernel
theorem d_K_greedy_71 : decode prog_7_method_26_code 71 = .ok (.iconst 1, 1) := by decide +kernel
theorem d_K_greedy_72 : decode prog_7_method_26_code 72 = .ok (.isub, 1) := by decide +kernel
theorem d_K_greedy_73 : decode prog_7_method_26_code 73 = .ok (.if_icmp .ge 14, 3) := by decide +kernel
theorem d_K_greedy_76 : decode prog_7_method_26_code 76 = .ok (.aload_n 0, 1) := by decide +kernel
theorem d_K_greedy_77 : decode prog_7_method_26_code 77 = .ok (.iload_n 2, 1) := by decide +kernel
theorem d_K_greedy_78 : decode prog_7_method_26_code 78 = .ok (.invokevirtual 132, 3) := by decide +kernel
theorem d_K_greedy_81 : decode prog_7_method_26_code 81 = .ok (.iinc 2 1, 3) := by decide +kernel
theorem d_K_greedy_84 : decode prog_7_method_26_code 84 = .ok (.goto (-20), 3) := by decide +kernel
theorem d_K_greedy_87 : decode prog_7_method_26_code 87 = .ok (.iload_n 1, 1) := by decide +kernel
theorem d_K_greedy_88 : decode prog_7_method_26_code 88 = .ok (.iconst (-1), 1) := by decide +kernel
theorem d_K_greedy_89 : decode prog_7_method_26_code 89 = .ok (.if_icmp .ne 8, 3) := by decide +kernel
theorem d_K_greedy_92 : decode prog_7_method_26_code 92 = .ok (.aload_n 0, 1) := by decide +kernel
theorem d_K_greedy_93 : decode prog_7_method_26_code 93 = .ok (.getfield 126, 3) := by decide +kernel
theorem d_K_greedy_96 : decode prog_7_method_26_code 96 = .ok (.ireturn, 1) := by decide +kernel
theorem d_K_greedy_97 : decode prog_7_method_26_code 97 = .ok (.iload_n 1, 1) := by decide +kernel
theorem d_K_greedy_98 : decode prog_7_method_26_code 98 = .ok (.ifCond .lt 18, 3) := by decide +kernel
theorem d_K_greedy_101 : decode prog_7_method_26_code 101 = .ok (.iload_n 1, 1) := by decide +kernel
theorem d_K_greedy_102 : decode prog_7_method_26_code 102 = .ok (.aload_n 0, 1) := by decide +kernel
theorem d_K_greedy_103 : decode prog_7_method_26_code 103 = .ok (.getfield 129, 3) := by decide +kernel
theorem d_K_greedy_106 : decode prog_7_method_26_code 106 = .ok (.if_icmp .ge 10, 3) := by decide +kernel
theorem d_K_greedy_109 : decode prog_7_method_26_code 109 = .ok (.aload_n 0, 1) := by decide +kernel
theorem d_K_greedy_110 : decode prog_7_method_26_code 110 = .ok (.getfield 47, 3) := by decide +kernel
theorem d_K_greedy_113 : decode prog_7_method_26_code 113 = .ok (.iload_n 1, 1) := by decide +kernel
theorem d_K_greedy_114 : decode prog_7_method_26_code 114 = .ok (.iaload, 1) := by decide +kernel
theorem d_K_greedy_115 : decode prog_7_method_26_code 115 = .ok (.ireturn, 1) := by decide +kernel
theorem d_K_greedy_116 : decode prog_7_method_26_code 116 = .ok (.iload_n 1, 1) := by decide +kernel
theorem d_K_greedy_117 : decode prog_7_method_26_code 117 = .ok (.bipush 100, 2) := by decide +kernel
theorem d_K_greedy_119 : decode prog_7_method_26_code 119 = .ok (.if_icmp .lt 26, 3) := by decide +kernel
theorem d_K_greedy_122 : decode prog_7_method_26_code 122 = .ok (.iload_n 1, 1) := by decide +kernel
theorem d_K_greedy_123 : decode prog_7_method_26_code 123 = .ok (.bipush 100, 2) := by decide +kernel
theorem d_K_greedy_125 : decode prog_7_method_26_code 125 = .ok (.aload_n 0, 1) := by decide +kernel
theorem d_K_greedy_126 : decode prog_7_method_26_code 126 = .ok (.getfield 129, 3) := by decide +kernel
theorem d_K_greedy_129 : decode prog_7_method_26_code 129 = .ok (.iadd, 1) := by decide +kernel
theorem d_K_greedy_130 : decode prog_7_method_26_code 130 = .ok (.if_icmp .ge 15, 3) := by decide +kernel
theorem d_K_greedy_133 : decode prog_7_method_26_code 133 = .ok (.aload_n 0, 1) := by decide +kernel
theorem d_K_greedy_134 : decode prog_7_method_26_code 134 = .ok (.getfield 50, 3) := by decide +kernel
theorem d_K_greedy_137 : decode prog_7_method_26_code 137 = .ok (.iload_n 1, 1) := by decide +kernel
theorem d_K_greedy_138 : decode prog_7_method_26_code 138 = .ok (.bipush 100, 2) := by decide +kernel
theorem d_K_greedy_140 : decode prog_7_method_26_code 140 = .ok (.isub, 1) := by decide +kernel
theorem d_K_greedy_141 : decode prog_7_method_26_code 141 = .ok (.iaload, 1) := by decide +kernel
theorem d_K_greedy_142 : decode prog_7_method_26_code 142 = .ok (.goto 4, 3) := by decide +kernel
theorem d_K_greedy_145 : decode prog_7_method_26_code 145 = .ok (.iconst (-1), 1) := by decide +kernel
theorem d_K_greedy_146 : decode prog_7_method_26_code 146 = .ok (.ireturn, 1) := by decide +kernel
theorem d_K_join_0 : decode prog_7_method_25_code 0 = .ok (.iconst (-1), 1) := by decide +kernel
theorem d_K_join_1 : decode prog_7_method_25_code 1 = .ok (.istore_n 2, 1) := by decide +kernel
theorem d_K_join_2 : decode prog_7_method_25_code 2 = .ok (.iconst (-1), 1) := by decide +kernel
theorem d_K_join_3 : decode prog_7_method_25_code 3 = .ok (.istore_n 3, 1) := by decide +kernel
theorem d_K_join_4 : decode prog_7_method_25_code 4 = .ok (.iconst 0, 1) := by decide +kernel
theorem d_K_join_5 : decode prog_7_method_25_code 5 = .ok (.istore 4, 2) := by decide +kernel
theorem d_K_join_7 : decode prog_7_method_25_code 7 = .ok (.iload 4, 2) := by decide +kernel
theorem d_K_join_9 : decode prog_7_method_25_code 9 = .ok (.iload_n 1, 1) := by decide +kernel
theorem d_K_join_10 : decode prog_7_method_25_code 10 = .ok (.if_icmp .ge 78, 3) := by decide +kernel
theorem d_K_join_13 : decode prog_7_method_25_code 13 = .ok (.iload 4, 2) := by decide +kernel
theorem d_K_join_15 : decode prog_7_method_25_code 15 = .ok (.iconst 1, 1) := by decide +kernel
theorem d_K_join_16 : decode prog_7_method_25_code 16 = .ok (.iadd, 1) := by decide +kernel
theorem d_K_join_17 : decode prog_7_method_25_code 17 = .ok (.istore 5, 2) := by decide +kernel
theorem d_K_join_19 : decode prog_7_method_25_code 19 = .ok (.iload 5, 2) := by decide +kernel
theorem d_K_join_21 : decode prog_7_method_25_code 21 = .ok (.iload_n 1, 1) := by decide +kernel
theorem d_K_join_22 : decode prog_7_method_25_code 22 = .ok (.if_icmp .ge 60, 3) := by decide +kernel
theorem d_K_join_25 : decode prog_7_method_25_code 25 = .ok (.aload_n 0, 1) := by decide +kernel
theorem d_K_join_26 : decode prog_7_method_25_code 26 = .ok (.getfield 43, 3) := by decide +kernel
theorem d_K_join_29 : decode prog_7_method_25_code 29 = .ok (.iload 4, 2) := by decide +kernel
theorem d_K_join_31 : decode prog_7_method_25_code 31 = .ok (.baload, 1) := by decide +kernel
theorem d_K_join_32 : decode prog_7_method_25_code 32 = .ok (.ifCond .ne 44, 3) := by decide +kernel
theorem d_K_join_35 : decode prog_7_method_25_code 35 = .ok (.aload_n 0, 1) := by decide +kernel
theorem d_K_join_36 : decode prog_7_method_25_code 36 = .ok (.getfield 43, 3) := by decide +kernel
theorem d_K_join_39 : decode prog_7_method_25_code 39 = .ok (.iload 5, 2) := by decide +kernel
theorem d_K_join_41 : decode prog_7_method_25_code 41 = .ok (.baload, 1) := by decide +kernel
theorem d_K_join_42 : decode prog_7_method_25_code 42 = .ok (.ifCond .ne 34, 3) := by decide +kernel
theorem d_K_join_45 : decode prog_7_method_25_code 45 = .ok (.iload_n 2, 1) := by decide +kernel
theorem d_K_join_46 : decode prog_7_method_25_code 46 = .ok (.iconst (-1), 1) := by decide +kernel
theorem d_K_join_47 : decode prog_7_method_25_code 47 = .ok (.if_icmp .eq 23, 3) := by decide +kernel
theorem d_K_join_50 : decode prog_7_method_25_code 50 = .ok (.aload_n 0, 1) := by decide +kernel
theorem d_K_join_51 : decode prog_7_method_25_code 51 = .ok (.iload 4, 2) := by decide +kernel
theorem d_K_join_53 : decode prog_7_method_25_code 53 = .ok (.iload 5, 2) := by decide +kernel
theorem d_K_join_55 : decode prog_7_method_25_code 55 = .ok (.invokevirtual 122, 3) := by decide +kernel
theorem d_K_join_58 : decode prog_7_method_25_code 58 = .ok (.aload_n 0, 1) := by decide +kernel
theorem d_K_join_59 : decode prog_7_method_25_code 59 = .ok (.iload_n 2, 1) := by decide +kernel
theorem d_K_join_60 : decode prog_7_method_25_code 60 = .ok (.iload_n 3, 1) := by decide +kernel
theorem d_K_join_61 : decode prog_7_method_25_code 61 = .ok (.invokevirtual 122, 3) := by decide +kernel
theorem d_K_join_64 : decode prog_7_method_25_code 64 = .ok (.if_icmp .lt 6, 3) := by decide +kernel
theorem d_K_join_67 : decode prog_7_method_25_code 67 = .ok (.goto 9, 3) := by decide +kernel
theorem d_K_join_70 : decode prog_7_method_25_code 70 = .ok (.iload 4, 2) := by decide +kernel
theorem d_K_join_72 : decode prog_7_method_25_code 72 = .ok (.istore_n 2, 1) := by decide +kernel
theorem d_K_join_73 : decode prog_7_method_25_code 73 = .ok (.iload 5, 2) := by decide +kernel
theorem d_K_join_75 : decode prog_7_method_25_code 75 = .ok (.istore_n 3, 1) := by decide +kernel
theorem d_K_join_76 : decode prog_7_method_25_code 76 = .ok (.iinc 5 1, 3) := by decide +kernel
theorem d_K_join_79 : decode prog_7_method_25_code 79 = .ok (.goto (-60), 3) := by decide +kernel
theorem d_K_join_82 : decode prog_7_method_25_code 82 = .ok (.iinc 4 1, 3) := by decide +kernel
theorem d_K_join_85 : decode prog_7_method_25_code 85 = .ok (.goto (-78), 3) := by decide +kernel
theorem d_K_join_88 : decode prog_7_method_25_code 88 = .ok (.aload_n 0, 1) := by decide +kernel
theorem d_K_join_89 : decode prog_7_method_25_code 89 = .ok (.dup, 1) := by decide +kernel
theorem d_K_join_90 : decode prog_7_method_25_code 90 = .ok (.getfield 126, 3) := by decide +kernel
theorem d_K_join_93 : decode prog_7_method_25_code 93 = .ok (.iconst 1, 1) := by decide +kernel
theorem d_K_join_94 : decode prog_7_method_25_code 94 = .ok (.aload_n 0, 1) := by decide +kernel
theorem d_K_join_95 : decode prog_7_method_25_code 95 = .ok (.getfield 40, 3) := by decide +kernel
theorem d_K_join_98 : decode prog_7_method_25_code 98 = .ok (.iload_n 2, 1) := by decide +kernel
theorem d_K_join_99 : decode prog_7_method_25_code 99 = .ok (.iaload, 1) := by decide +kernel
theorem d_K_join_100 : decode prog_7_method_25_code 100 = .ok (.aload_n 0, 1) := by decide +kernel
theorem d_K_join_101 : decode prog_7_method_25_code 101 = .ok (.getfield 40, 3) := by decide +kernel
theorem d_K_join_104 : decode prog_7_method_25_code 104 = .ok (.iload_n 3, 1) := by decide +kernel
theorem d_K_join_105 : decode prog_7_method_25_code 105 = .ok (.iaload, 1) := by decide +kernel
theorem d_K_join_106 : decode prog_7_method_25_code 106 = .ok (.ior, 1) := by decide +kernel
theorem d_K_join_107 : decode prog_7_method_25_code 107 = .ok (.invokestatic 94, 3) := by decide +kernel
theorem d_K_join_110 : decode prog_7_method_25_code 110 = .ok (.ishl, 1) := by decide +kernel
theorem d_K_join_111 : decode prog_7_method_25_code 111 = .ok (.iadd, 1) := by decide +kernel
theorem d_K_join_112 : decode prog_7_method_25_code 112 = .ok (.putfield 126, 3) := by decide +kernel
theorem d_K_join_115 : decode prog_7_method_25_code 115 = .ok (.aload_n 0, 1) := by decide +kernel
theorem d_K_join_116 : decode prog_7_method_25_code 116 = .ok (.getfield 40, 3) := by decide +kernel
theorem d_K_join_119 : decode prog_7_method_25_code 119 = .ok (.iload_n 1, 1) := by decide +kernel
theorem d_K_join_120 : decode prog_7_method_25_code 120 = .ok (.aload_n 0, 1) := by decide +kernel
theorem d_K_join_121 : decode prog_7_method_25_code 121 = .ok (.getfield 40, 3) := by decide +kernel
theorem d_K_join_124 : decode prog_7_method_25_code 124 = .ok (.iload_n 2, 1) := by decide +kernel
theorem d_K_join_125 : decode prog_7_method_25_code 125 = .ok (.iaload, 1) := by decide +kernel
theorem d_K_join_126 : decode prog_7_method_25_code 126 = .ok (.aload_n 0, 1) := by decide +kernel
theorem d_K_join_127 : decode prog_7_method_25_code 127 = .ok (.getfield 40, 3) := by decide +kernel
theorem d_K_join_130 : decode prog_7_method_25_code 130 = .ok (.iload_n 3, 1) := by decide +kernel
theorem d_K_join_131 : decode prog_7_method_25_code 131 = .ok (.iaload, 1) := by decide +kernel
theorem d_K_join_132 : decode prog_7_method_25_code 132 = .ok (.ixor, 1) := by decide +kernel
theorem d_K_join_133 : decode prog_7_method_25_code 133 = .ok (.iastore, 1) := by decide +kernel
theorem d_K_join_134 : decode prog_7_method_25_code 134 = .ok (.aload_n 0, 1) := by decide +kernel
theorem d_K_join_135 : decode prog_7_method_25_code 135 = .ok (.getfield 43, 3) := by decide +kernel
theorem d_K_join_138 : decode prog_7_method_25_code 138 = .ok (.iload_n 2, 1) := by decide +kernel
theorem d_K_join_139 : decode prog_7_method_25_code 139 = .ok (.iconst 1, 1) := by decide +kernel
theorem d_K_join_140 : decode prog_7_method_25_code 140 = .ok (.bastore, 1) := by decide +kernel
theorem d_K_join_141 : decode prog_7_method_25_code 141 = .ok (.aload_n 0, 1) := by decide +kernel
theorem d_K_join_142 : decode prog_7_method_25_code 142 = .ok (.getfield 43, 3) := by decide +kernel
theorem d_K_join_145 : decode prog_7_method_25_code 145 = .ok (.iload_n 3, 1) := by decide +kernel
theorem d_K_join_146 : decode prog_7_method_25_code 146 = .ok (.iconst 1, 1) := by decide +kernel
theorem d_K_join_147 : decode prog_7_method_25_code 147 = .ok (.bastore, 1) := by decide +kernel
theorem d_K_join_148 : decode prog_7_method_25_code 148 = .ok (.aload_n 0, 1) := by decide +kernel
theorem d_K_join_149 : decode prog_7_method_25_code 149 = .ok (.getfield 43, 3) := by decide +kernel
theorem d_K_join_152 : decode prog_7_method_25_code 152 = .ok (.iload_n 1, 1) := by decide +kernel
theorem d_K_join_153 : decode prog_7_method_25_code 153 = .ok (.iconst 0, 1) := by decide +kernel
theorem d_K_join_154 : decode prog_7_method_25_code 154 = .ok (.bastore, 1) := by decide +kernel
theorem d_K_join_155 : decode prog_7_method_25_code 155 = .ok (.aload_n 0, 1) := by decide +kernel
theorem d_K_join_156 : decode prog_7_method_25_code 156 = .ok (.getfield 47, 3) := by decide +kernel
theorem d_K_join_159 : decode prog_7_method_25_code 159 = .ok (.aload_n 0, 1) := by decide +kernel
theorem d_K_join_160 : decode prog_7_method_25_code 160 = .ok (.getfield 129, 3) := by decide +kernel
theorem d_K_join_163 : decode prog_7_method_25_code 163 = .ok (.iload_n 2, 1) := by decide +kernel
theorem d_K_join_164 : decode prog_7_method_25_code 164 = .ok (.iastore, 1) := by decide +kernel
theorem d_K_join_165 : decode prog_7_method_25_code 165 = .ok (.aload_n 0, 1) := by decide +kernel
theorem d_K_join_166 : decode prog_7_method_25_code 166 = .ok (.getfield 50, 3) := by decide +kernel
theorem d_K_join_169 : decode prog_7_method_25_code 169 = .ok (.aload_n 0, 1) := by decide +kernel
theorem d_K_join_170 : decode prog_7_method_25_code 170 = .ok (.getfield 129, 3) := by decide +kernel
theorem d_K_join_173 : decode prog_7_method_25_code 173 = .ok (.iload_n 3, 1) := by decide +kernel
theorem d_K_join_174 : decode prog_7_method_25_code 174 = .ok (.iastore, 1) := by decide +kernel
theorem d_K_join_175 : decode prog_7_method_25_code 175 = .ok (.aload_n 0, 1) := by decide +kernel
theorem d_K_join_176 : decode prog_7_method_25_code 176 = .ok (.dup, 1) := by decide +kernel
theorem d_K_join_177 : decode prog_7_method_25_code 177 = .ok (.getfield 129, 3) := by decide +kernel
theorem d_K_join_180 : decode prog_7_method_25_code 180 = .ok (.iconst 1, 1) := by decide +kernel
theorem d_K_join_181 : decode prog_7_method_25_code 181 = .ok (.iadd, 1) := by decide +kernel
theorem d_K_join_182 : decode prog_7_method_25_code 182 = .ok (.putfield 129, 3) := by decide +kernel
theorem d_K_join_185 : decode prog_7_method_25_code 185 = .ok (.return_, 1) := by decide +kernel
theorem d_K_gain_0 : decode prog_7_method_24_code 0 = .ok (.iconst 1, 1) := by decide +kernel
theorem d_K_gain_1 : decode prog_7_method_24_code 1 = .ok (.aload_n 0, 1) := by decide +kernel
theorem d_K_gain_2 : decode prog_7_method_24_code 2 = .ok (.getfield 40, 3) := by decide +kernel
theorem d_K_gain_5 : decode prog_7_method_24_code 5 = .ok (.iload_n 1, 1) := by decide +kernel
theorem d_K_gain_6 : decode prog_7_method_24_code 6 = .ok (.iaload, 1) := by decide +kernel
theorem d_K_gain_7 : decode prog_7_method_24_code 7 = .ok (.aload_n 0, 1) := by decide +kernel
theorem d_K_gain_8 : decode prog_7_method_24_code 8 = .ok (.getfield 40, 3) := by decide +kernel
theorem d_K_gain_11 : decode prog_7_method_24_code 11 = .ok (.iload_n 2, 1) := by decide +kernel
theorem d_K_gain_12 : decode prog_7_method_24_code 12 = .ok (.iaload, 1) := by decide +kernel
theorem d_K_gain_13 : decode prog_7_method_24_code 13 = .ok (.ixor, 1) := by decide +kernel
theorem d_K_gain_14 : decode prog_7_method_24_code 14 = .ok (.invokestatic 94, 3) := by decide +kernel
theorem d_K_gain_17 : decode prog_7_method_24_code 17 = .ok (.ishl, 1) := by decide +kernel
theorem d_K_gain_18 : decode prog_7_method_24_code 18 = .ok (.iconst 1, 1) := by decide +kernel
theorem d_K_gain_19 : decode prog_7_method_24_code 19 = .ok (.aload_n 0, 1) := by decide +kernel
theorem d_K_gain_20 : decode prog_7_method_24_code 20 = .ok (.getfield 40, 3) := by decide +kernel
theorem d_K_gain_23 : decode prog_7_method_24_code 23 = .ok (.iload_n 1, 1) := by decide +kernel
theorem d_K_gain_24 : decode prog_7_method_24_code 24 = .ok (.iaload, 1) := by decide +kernel
theorem d_K_gain_25 : decode prog_7_method_24_code 25 = .ok (.invokestatic 94, 3) := by decide +kernel
theorem d_K_gain_28 : decode prog_7_method_24_code 28 = .ok (.ishl, 1) := by decide +kernel
theorem d_K_gain_29 : decode prog_7_method_24_code 29 = .ok (.isub, 1) := by decide +kernel
theorem d_K_gain_30 : decode prog_7_method_24_code 30 = .ok (.iconst 1, 1) := by decide +kernel
theorem d_K_gain_31 : decode prog_7_method_24_code 31 = .ok (.aload_n 0, 1) := by decide +kernel
theorem d_K_gain_32 : decode prog_7_method_24_code 32 = .ok (.getfield 40, 3) := by decide +kernel
theorem d_K_gain_35 : decode prog_7_method_24_code 35 = .ok (.iload_n 2, 1) := by decide +kernel
theorem d_K_gain_36 : decode prog_7_method_24_code 36 = .ok (.iaload, 1) := by decide +kernel
theorem d_K_gain_37 : decode prog_7_method_24_code 37 = .ok (.invokestatic 94, 3) := by decide +kernel
theorem d_K_gain_40 : decode prog_7_method_24_code 40 = .ok (.ishl, 1) := by decide +kernel
theorem d_K_gain_41 : decode prog_7_method_24_code 41 = .ok (.isub, 1) := by decide +kernel
theorem d_K_gain_42 : decode prog_7_method_24_code 42 = .ok (.ireturn, 1) := by decide +kernel
theorem d_K_value_0 : decode prog_7_method_32_code 0 = .ok (.aload_n 0, 1) := by decide +kernel
theorem d_K_value_1 : decode prog_7_method_32_code 1 = .ok (.iconst (-1), 1) := by decide +kernel
theorem d_K_value_2 : decode prog_7_method_32_code 2 = .ok (.putfield 141, 3) := by decide +kernel
theorem d_K_value_5 : decode prog_7_method_32_code 5 = .ok (.aload_n 0, 1) := by decide +kernel
theorem d_K_value_6 : decode prog_7_method_32_code 6 = .ok (.iconst 1, 1) := by decide +kernel
theorem d_K_value_7 : decode prog_7_method_32_code 7 = .ok (.iload_n 1, 1) := by decide +kernel
theorem d_K_value_8 : decode prog_7_method_32_code 8 = .ok (.iload_n 2, 1) := by decide +kernel
theorem d_K_value_9 : decode prog_7_method_32_code 9 = .ok (.invokevirtual 167, 3) := by decide +kernel
theorem d_K_value_12 : decode prog_7_method_32_code 12 = .ok (.lreturn, 1) := by decide +kernel
theorem d_K_tell_0 : decode prog_7_method_31_code 0 = .ok (.iload_n 1, 1) := by decide +kernel
theorem d_K_tell_1 : decode prog_7_method_31_code 1 = .ok (.ifCond .eq 35, 3) := by decide +kernel
theorem d_K_tell_4 : decode prog_7_method_31_code 4 = .ok (.aload_n 0, 1) := by decide +kernel
theorem d_K_tell_5 : decode prog_7_method_31_code 5 = .ok (.invokevirtual 90, 3) := by decide +kernel
theorem d_K_tell_8 : decode prog_7_method_31_code 8 = .ok (.ifCond .eq 28, 3) := by decide +kernel
theorem d_K_tell_11 : decode prog_7_method_31_code 11 = .ok (.iload_n 3, 1) := by decide +kernel
theorem d_K_tell_12 : decode prog_7_method_31_code 12 = .ok (.ifCond .lt 24, 3) := by decide +kernel
theorem d_K_tell_15 : decode prog_7_method_31_code 15 = .ok (.iload_n 3, 1) := by decide +kernel
theorem d_K_tell_16 : decode prog_7_method_31_code 16 = .ok (.iconst 1, 1) := by decide +kernel
theorem d_K_tell_17 : decode prog_7_method_31_code 17 = .ok (.if_icmp .gt 19, 3) := by decide +kernel
theorem d_K_tell_20 : decode prog_7_method_31_code 20 = .ok (.iload_n 2, 1) := by decide +kernel
theorem d_K_tell_21 : decode prog_7_method_31_code 21 = .ok (.ifCond .lt 15, 3) := by decide +kernel
theorem d_K_tell_24 : decode prog_7_method_31_code 24 = .ok (.iload_n 2, 1) := by decide +kernel
theorem d_K_tell_25 : decode prog_7_method_31_code 25 = .ok (.aload_n 0, 1) := by decide +kernel
theorem d_K_tell_26 : decode prog_7_method_31_code 26 = .ok (.getfield 84, 3) := by decide +kernel
theorem d_K_tell_29 : decode prog_7_method_31_code 29 = .ok (.invokestatic 94, 3) := by decide +kernel
theorem d_K_tell_32 : decode prog_7_method_31_code 32 = .ok (.iushr, 1) := by decide +kernel
theorem d_K_tell_33 : decode prog_7_method_31_code 33 = .ok (.ifCond .eq 9, 3) := by decide +kernel
theorem d_K_tell_36 : decode prog_7_method_31_code 36 = .ok (.aload_n 0, 1) := by decide +kernel
theorem d_K_tell_37 : decode prog_7_method_31_code 37 = .ok (.iconst 1, 1) := by decide +kernel
theorem d_K_tell_38 : decode prog_7_method_31_code 38 = .ok (.invokevirtual 160, 3) := by decide +kernel
theorem d_K_tell_41 : decode prog_7_method_31_code 41 = .ok (.lreturn, 1) := by decide +kernel
theorem d_K_tell_42 : decode prog_7_method_31_code 42 = .ok (.aload_n 0, 1) := by decide +kernel
theorem d_K_tell_43 : decode prog_7_method_31_code 43 = .ok (.iconst 0, 1) := by decide +kernel
theorem d_K_tell_44 : decode prog_7_method_31_code 44 = .ok (.invokevirtual 112, 3) := by decide +kernel
theorem d_K_tell_47 : decode prog_7_method_31_code 47 = .ok (.aload_n 0, 1) := by decide +kernel
theorem d_K_tell_48 : decode prog_7_method_31_code 48 = .ok (.invokevirtual 116, 3) := by decide +kernel
theorem d_K_tell_51 : decode prog_7_method_31_code 51 = .ok (.bipush 12, 2) := by decide +kernel
theorem d_K_tell_53 : decode prog_7_method_31_code 53 = .ok (.if_icmp .le 9, 3) := by decide +kernel
theorem d_K_tell_56 : decode prog_7_method_31_code 56 = .ok (.aload_n 0, 1) := by decide +kernel
theorem d_K_tell_57 : decode prog_7_method_31_code 57 = .ok (.iconst 2, 1) := by decide +kernel
theorem d_K_tell_58 : decode prog_7_method_31_code 58 = .ok (.invokevirtual 160, 3) := by decide +kernel
theorem d_K_tell_61 : decode prog_7_method_31_code 61 = .ok (.lreturn, 1) := by decide +kernel
theorem d_K_tell_62 : decode prog_7_method_31_code 62 = .ok (.aload_n 0, 1) := by decide +kernel
theorem d_K_tell_63 : decode prog_7_method_31_code 63 = .ok (.iconst 0, 1) := by decide +kernel
theorem d_K_tell_64 : decode prog_7_method_31_code 64 = .ok (.putfield 69, 3) := by decide +kernel
theorem d_K_tell_67 : decode prog_7_method_31_code 67 = .ok (.aload_n 0, 1) := by decide +kernel
theorem d_K_tell_68 : decode prog_7_method_31_code 68 = .ok (.iload_n 2, 1) := by decide +kernel
theorem d_K_tell_69 : decode prog_7_method_31_code 69 = .ok (.invokevirtual 164, 3) := by decide +kernel
theorem d_K_tell_72 : decode prog_7_method_31_code 72 = .ok (.iload_n 3, 1) := by decide +kernel
theorem d_K_tell_73 : decode prog_7_method_31_code 73 = .ok (.ifCond .ne 10, 3) := by decide +kernel
theorem d_K_tell_76 : decode prog_7_method_31_code 76 = .ok (.aload_n 0, 1) := by decide +kernel
theorem d_K_tell_77 : decode prog_7_method_31_code 77 = .ok (.getfield 150, 3) := by decide +kernel
theorem d_K_tell_80 : decode prog_7_method_31_code 80 = .ok (.goto 7, 3) := by decide +kernel
theorem d_K_tell_83 : decode prog_7_method_31_code 83 = .ok (.aload_n 0, 1) := by decide +kernel
theorem d_K_tell_84 : decode prog_7_method_31_code 84 = .ok (.getfield 154, 3) := by decide +kernel
theorem d_K_tell_87 : decode prog_7_method_31_code 87 = .ok (.lreturn, 1) := by decide +kernel
theorem d_K_raise_0 : decode prog_7_method_3_code 0 = .ok (.aload_n 0, 1) := by decide +kernel
theorem d_K_raise_1 : decode prog_7_method_3_code 1 = .ok (.iload_n 1, 1) := by decide +kernel
theorem d_K_raise_2 : decode prog_7_method_3_code 2 = .ok (.putfield 69, 3) := by decide +kernel
theorem d_K_raise_5 : decode prog_7_method_3_code 5 = .ok (.lconst 0, 1) := by decide +kernel
theorem d_K_raise_6 : decode prog_7_method_3_code 6 = .ok (.lreturn, 1) := by decide +kernel
theorem d_K_sumUp_0 : decode prog_7_method_30_code 0 = .ok (.aload_n 0, 1) := by decide +kernel
theorem d_K_sumUp_1 : decode prog_7_method_30_code 1 = .ok (.iload_n 1, 1) := by decide +kernel
theorem d_K_sumUp_2 : decode prog_7_method_30_code 2 = .ok (.invokevirtual 147, 3) := by decide +kernel
theorem d_K_sumUp_5 : decode prog_7_method_30_code 5 = .ok (.aload_n 0, 1) := by decide +kernel
theorem d_K_sumUp_6 : decode prog_7_method_30_code 6 = .ok (.lconst 0, 1) := by decide +kernel
theorem d_K_sumUp_7 : decode prog_7_method_30_code 7 = .ok (.putfield 150, 3) := by decide +kernel
theorem d_K_sumUp_10 : decode prog_7_method_30_code 10 = .ok (.aload_n 0, 1) := by decide +kernel
theorem d_K_sumUp_11 : decode prog_7_method_30_code 11 = .ok (.lconst 0, 1) := by decide +kernel
theorem d_K_sumUp_12 : decode prog_7_method_30_code 12 = .ok (.putfield 154, 3) := by decide +kernel
theorem d_K_sumUp_15 : decode prog_7_method_30_code 15 = .ok (.iconst 0, 1) := by decide +kernel
theorem d_K_sumUp_16 : decode prog_7_method_30_code 16 = .ok (.istore_n 2, 1) := by decide +kernel
theorem d_K_sumUp_17 : decode prog_7_method_30_code 17 = .ok (.iconst 0, 1) := by decide +kernel
theorem d_K_sumUp_18 : decode prog_7_method_30_code 18 = .ok (.istore_n 3, 1) := by decide +kernel
theorem d_K_sumUp_19 : decode prog_7_method_30_code 19 = .ok (.iload_n 3, 1) := by decide +kernel
theorem d_K_sumUp_20 : decode prog_7_method_30_code 20 = .ok (.iconst 1, 1) := by decide +kernel
theorem d_K_sumUp_21 : decode prog_7_method_30_code 21 = .ok (.aload_n 0, 1) := by decide +kernel
theorem d_K_sumUp_22 : decode prog_7_method_30_code 22 = .ok (.getfield 135, 3) := by decide +kernel
theorem d_K_sumUp_25 : decode prog_7_method_30_code 25 = .ok (.ishl, 1) := by decide +kernel
theorem d_K_sumUp_26 : decode prog_7_method_30_code 26 = .ok (.if_icmp .ge 148, 3) := by decide +kernel
theorem d_K_sumUp_29 : decode prog_7_method_30_code 29 = .ok (.iconst 0, 1) := by decide +kernel
theorem d_K_sumUp_30 : decode prog_7_method_30_code 30 = .ok (.istore 4, 2) := by decide +kernel
theorem d_K_sumUp_32 : decode prog_7_method_30_code 32 = .ok (.iload 4, 2) := by decide +kernel
theorem d_K_sumUp_34 : decode prog_7_method_30_code 34 = .ok (.aload_n 0, 1) := by decide +kernel
theorem d_K_sumUp_35 : decode prog_7_method_30_code 35 = .ok (.getfield 135, 3) := by decide +kernel
theorem d_K_sumUp_38 : decode prog_7_method_30_code 38 = .ok (.if_icmp .ge 34, 3) := by decide +kernel
theorem d_K_sumUp_41 : decode prog_7_method_30_code 41 = .ok (.aload_n 0, 1) := by decide +kernel
theorem d_K_sumUp_42 : decode prog_7_method_30_code 42 = .ok (.getfield 53, 3) := by decide +kernel
theorem d_K_sumUp_45 : decode prog_7_method_30_code 45 = .ok (.aload_n 0, 1) := by decide +kernel
theorem d_K_sumUp_46 : decode prog_7_method_30_code 46 = .ok (.getfield 56, 3) := by decide +kernel
theorem d_K_sumUp_49 : decode prog_7_method_30_code 49 = .ok (.iload 4, 2) := by decide +kernel
theorem d_K_sumUp_51 : decode prog_7_method_30_code 51 = .ok (.iaload, 1) := by decide +kernel
theorem d_K_sumUp_52 : decode prog_7_method_30_code 52 = .ok (.iload_n 3, 1) := by decide +kernel
theorem d_K_sumUp_53 : decode prog_7_method_30_code 53 = .ok (.aload_n 0, 1) := by decide +kernel
theorem d_K_sumUp_54 : decode prog_7_method_30_code 54 = .ok (.getfield 135, 3) := by decide +kernel
theorem d_K_sumUp_57 : decode prog_7_method_30_code 57 = .ok (.iconst 1, 1) := by decide +kernel
theorem d_K_sumUp_58 : decode prog_7_method_30_code 58 = .ok (.isub, 1) := by decide +kernel
theorem d_K_sumUp_59 : decode prog_7_method_30_code 59 = .ok (.iload 4, 2) := by decide +kernel
theorem d_K_sumUp_61 : decode prog_7_method_30_code 61 = .ok (.isub, 1) := by decide +kernel
theorem d_K_sumUp_62 : decode prog_7_method_30_code 62 = .ok (.ishr, 1) := by decide +kernel
theorem d_K_sumUp_63 : decode prog_7_method_30_code 63 = .ok (.iconst 1, 1) := by decide +kernel
theorem d_K_sumUp_64 : decode prog_7_method_30_code 64 = .ok (.iand, 1) := by decide +kernel
theorem d_K_sumUp_65 : decode prog_7_method_30_code 65 = .ok (.iastore, 1) := by decide +kernel
theorem d_K_sumUp_66 : decode prog_7_method_30_code 66 = .ok (.iinc 4 1, 3) := by decide +kernel
theorem d_K_sumUp_69 : decode prog_7_method_30_code 69 = .ok (.goto (-37), 3) := by decide +kernel
theorem d_K_sumUp_72 : decode prog_7_method_30_code 72 = .ok (.iload_n 2, 1) := by decide +kernel
theorem d_K_sumUp_73 : decode prog_7_method_30_code 73 = .ok (.istore 4, 2) := by decide +kernel
theorem d_K_sumUp_75 : decode prog_7_method_30_code 75 = .ok (.iload 4, 2) := by decide +kernel
theorem d_K_sumUp_77 : decode prog_7_method_30_code 77 = .ok (.aload_n 0, 1) := by decide +kernel
theorem d_K_sumUp_78 : decode prog_7_method_30_code 78 = .ok (.getfield 135, 3) := by decide +kernel
theorem d_K_sumUp_81 : decode prog_7_method_30_code 81 = .ok (.if_icmp .gt 15, 3) := by decide +kernel
theorem d_K_sumUp_84 : decode prog_7_method_30_code 84 = .ok (.aload_n 0, 1) := by decide +kernel
theorem d_K_sumUp_85 : decode prog_7_method_30_code 85 = .ok (.iload 4, 2) := by decide +kernel
theorem d_K_sumUp_87 : decode prog_7_method_30_code 87 = .ok (.invokevirtual 157, 3) := by decide +kernel
theorem d_K_sumUp_90 : decode prog_7_method_30_code 90 = .ok (.iinc 4 1, 3) := by decide +kernel
theorem d_K_sumUp_93 : decode prog_7_method_30_code 93 = .ok (.goto (-18), 3) := by decide +kernel
theorem d_K_sumUp_96 : decode prog_7_method_30_code 96 = .ok (.aload_n 0, 1) := by decide +kernel
theorem d_K_sumUp_97 : decode prog_7_method_30_code 97 = .ok (.dup, 1) := by decide +kernel
theorem d_K_sumUp_98 : decode prog_7_method_30_code 98 = .ok (.getfield 150, 3) := by decide +kernel
theorem d_K_sumUp_101 : decode prog_7_method_30_code 101 = .ok (.aload_n 0, 1) := by decide +kernel
theorem d_K_sumUp_102 : decode prog_7_method_30_code 102 = .ok (.getfield 62, 3) := by decide +kernel
theorem d_K_sumUp_105 : decode prog_7_method_30_code 105 = .ok (.aload_n 0, 1) := by decide +kernel
theorem d_K_sumUp_106 : decode prog_7_method_30_code 106 = .ok (.getfield 135, 3) := by decide +kernel
theorem d_K_sumUp_109 : decode prog_7_method_30_code 109 = .ok (.laload, 1) := by decide +kernel
theorem d_K_sumUp_110 : decode prog_7_method_30_code 110 = .ok (.ladd, 1) := by decide +kernel
theorem d_K_sumUp_111 : decode prog_7_method_30_code 111 = .ok (.putfield 150, 3) := by decide +kernel
theorem d_K_sumUp_114 : decode prog_7_method_30_code 114 = .ok (.aload_n 0, 1) := by decide +kernel
theorem d_K_sumUp_115 : decode prog_7_method_30_code 115 = .ok (.dup, 1) := by decide +kernel
theorem d_K_sumUp_116 : decode prog_7_method_30_code 116 = .ok (.getfield 154, 3) := by decide +kernel
theorem d_K_sumUp_119 : decode prog_7_method_30_code 119 = .ok (.aload_n 0, 1) := by decide +kernel
theorem d_K_sumUp_120 : decode prog_7_method_30_code 120 = .ok (.getfield 66, 3) := by decide +kernel
theorem d_K_sumUp_123 : decode prog_7_method_30_code 123 = .ok (.aload_n 0, 1) := by decide +kernel
theorem d_K_sumUp_124 : decode prog_7_method_30_code 124 = .ok (.getfield 135, 3) := by decide +kernel
theorem d_K_sumUp_127 : decode prog_7_method_30_code 127 = .ok (.laload, 1) := by decide +kernel
theorem d_K_sumUp_128 : decode prog_7_method_30_code 128 = .ok (.ladd, 1) := by decide +kernel
theorem d_K_sumUp_129 : decode prog_7_method_30_code 129 = .ok (.putfield 154, 3) := by decide +kernel
theorem d_K_sumUp_132 : decode prog_7_method_30_code 132 = .ok (.aload_n 0, 1) := by decide +kernel
theorem d_K_sumUp_133 : decode prog_7_method_30_code 133 = .ok (.getfield 135, 3) := by decide +kernel
theorem d_K_sumUp_136 : decode prog_7_method_30_code 136 = .ok (.istore 4, 2) := by decide +kernel
theorem d_K_sumUp_138 : decode prog_7_method_30_code 138 = .ok (.iload 4, 2) := by decide +kernel
theorem d_K_sumUp_140 : decode prog_7_method_30_code 140 = .ok (.ifCond .le 25, 3) := by decide +kernel
theorem d_K_sumUp_143 : decode prog_7_method_30_code 143 = .ok (.iload_n 3, 1) := by decide +kernel
theorem d_K_sumUp_144 : decode prog_7_method_30_code 144 = .ok (.iconst 1, 1) := by decide +kernel
theorem d_K_sumUp_145 : decode prog_7_method_30_code 145 = .ok (.iadd, 1) := by decide +kernel
theorem d_K_sumUp_146 : decode prog_7_method_30_code 146 = .ok (.aload_n 0, 1) := by decide +kernel
theorem d_K_sumUp_147 : decode prog_7_method_30_code 147 = .ok (.getfield 135, 3) := by decide +kernel
theorem d_K_sumUp_150 : decode prog_7_method_30_code 150 = .ok (.iload 4, 2) := by decide +kernel
theorem d_K_sumUp_152 : decode prog_7_method_30_code 152 = .ok (.isub, 1) := by decide +kernel
theorem d_K_sumUp_153 : decode prog_7_method_30_code 153 = .ok (.ishr, 1) := by decide +kernel
theorem d_K_sumUp_154 : decode prog_7_method_30_code 154 = .ok (.iconst 1, 1) := by decide +kernel
theorem d_K_sumUp_155 : decode prog_7_method_30_code 155 = .ok (.iand, 1) := by decide +kernel
theorem d_K_sumUp_156 : decode prog_7_method_30_code 156 = .ok (.ifCond .ne 9, 3) := by decide +kernel
theorem d_K_sumUp_159 : decode prog_7_method_30_code 159 = .ok (.iinc 4 (-1), 3) := by decide +kernel
theorem d_K_sumUp_162 : decode prog_7_method_30_code 162 = .ok (.goto (-24), 3) := by decide +kernel
theorem d_K_sumUp_165 : decode prog_7_method_30_code 165 = .ok (.iload 4, 2) := by decide +kernel
theorem d_K_sumUp_167 : decode prog_7_method_30_code 167 = .ok (.istore_n 2, 1) := by decide +kernel
theorem d_K_sumUp_168 : decode prog_7_method_30_code 168 = .ok (.iinc 3 1, 3) := by decide +kernel
theorem d_K_sumUp_171 : decode prog_7_method_30_code 171 = .ok (.goto (-152), 3) := by decide +kernel
theorem d_K_sumUp_174 : decode prog_7_method_30_code 174 = .ok (.return_, 1) := by decide +kernel
theorem d_K_order_0 : decode prog_7_method_27_code 0 = .ok (.iconst 0, 1) := by decide +kernel
theorem d_K_order_1 : decode prog_7_method_27_code 1 = .ok (.istore_n 2, 1) := by decide +kernel
theorem d_K_order_2 : decode prog_7_method_27_code 2 = .ok (.aload_n 0, 1) := by decide +kernel
theorem d_K_order_3 : decode prog_7_method_27_code 3 = .ok (.iconst 0, 1) := by decide +kernel
theorem d_K_order_4 : decode prog_7_method_27_code 4 = .ok (.putfield 135, 3) := by decide +kernel
theorem d_K_order_7 : decode prog_7_method_27_code 7 = .ok (.iconst 0, 1) := by decide +kernel
theorem d_K_order_8 : decode prog_7_method_27_code 8 = .ok (.istore_n 3, 1) := by decide +kernel
theorem d_K_order_9 : decode prog_7_method_27_code 9 = .ok (.iload_n 3, 1) := by decide +kernel
theorem d_K_order_10 : decode prog_7_method_27_code 10 = .ok (.bipush 20, 2) := by decide +kernel
theorem d_K_order_12 : decode prog_7_method_27_code 12 = .ok (.if_icmp .ge 69, 3) := by decide +kernel
theorem d_K_order_15 : decode prog_7_method_27_code 15 = .ok (.aload_n 0, 1) := by decide +kernel
theorem d_K_order_16 : decode prog_7_method_27_code 16 = .ok (.getfield 84, 3) := by decide +kernel
theorem d_K_order_19 : decode prog_7_method_27_code 19 = .ok (.iload_n 3, 1) := by decide +kernel
theorem d_K_order_20 : decode prog_7_method_27_code 20 = .ok (.ishr, 1) := by decide +kernel
theorem d_K_order_21 : decode prog_7_method_27_code 21 = .ok (.iconst 1, 1) := by decide +kernel
theorem d_K_order_22 : decode prog_7_method_27_code 22 = .ok (.iand, 1) := by decide +kernel
theorem d_K_order_23 : decode prog_7_method_27_code 23 = .ok (.iconst 1, 1) := by decide +kernel
theorem d_K_order_24 : decode prog_7_method_27_code 24 = .ok (.if_icmp .ne 17, 3) := by decide +kernel
theorem d_K_order_27 : decode prog_7_method_27_code 27 = .ok (.aload_n 0, 1) := by decide +kernel
theorem d_K_order_28 : decode prog_7_method_27_code 28 = .ok (.getfield 53, 3) := by decide +kernel
theorem d_K_order_31 : decode prog_7_method_27_code 31 = .ok (.iload_n 3, 1) := by decide +kernel
theorem d_K_order_32 : decode prog_7_method_27_code 32 = .ok (.iload_n 1, 1) := by decide +kernel
theorem d_K_order_33 : decode prog_7_method_27_code 33 = .ok (.iload_n 2, 1) := by decide +kernel
theorem d_K_order_34 : decode prog_7_method_27_code 34 = .ok (.ishr, 1) := by decide +kernel
theorem d_K_order_35 : decode prog_7_method_27_code 35 = .ok (.iconst 1, 1) := by decide +kernel
theorem d_K_order_36 : decode prog_7_method_27_code 36 = .ok (.iand, 1) := by decide +kernel
theorem d_K_order_37 : decode prog_7_method_27_code 37 = .ok (.iastore, 1) := by decide +kernel
theorem d_K_order_38 : decode prog_7_method_27_code 38 = .ok (.iinc 2 1, 3) := by decide +kernel
theorem d_K_order_41 : decode prog_7_method_27_code 41 = .ok (.aload_n 0, 1) := by decide +kernel
theorem d_K_order_42 : decode prog_7_method_27_code 42 = .ok (.getfield 87, 3) := by decide +kernel
theorem d_K_order_45 : decode prog_7_method_27_code 45 = .ok (.iload_n 3, 1) := by decide +kernel
theorem d_K_order_46 : decode prog_7_method_27_code 46 = .ok (.ishr, 1) := by decide +kernel
theorem d_K_order_47 : decode prog_7_method_27_code 47 = .ok (.iconst 1, 1) := by decide +kernel
theorem d_K_order_48 : decode prog_7_method_27_code 48 = .ok (.iand, 1) := by decide +kernel
theorem d_K_order_49 : decode prog_7_method_27_code 49 = .ok (.ifCond .ne 6, 3) := by decide +kernel
theorem d_K_order_52 : decode prog_7_method_27_code 52 = .ok (.goto 23, 3) := by decide +kernel
theorem d_K_order_55 : decode prog_7_method_27_code 55 = .ok (.aload_n 0, 1) := by decide +kernel
theorem d_K_order_56 : decode prog_7_method_27_code 56 = .ok (.getfield 56, 3) := by decide +kernel
theorem d_K_order_59 : decode prog_7_method_27_code 59 = .ok (.aload_n 0, 1) := by decide +kernel
theorem d_K_order_60 : decode prog_7_method_27_code 60 = .ok (.getfield 135, 3) := by decide +kernel
theorem d_K_order_63 : decode prog_7_method_27_code 63 = .ok (.iload_n 3, 1) := by decide +kernel
theorem d_K_order_64 : decode prog_7_method_27_code 64 = .ok (.iastore, 1) := by decide +kernel
theorem d_K_order_65 : decode prog_7_method_27_code 65 = .ok (.aload_n 0, 1) := by decide +kernel
theorem d_K_order_66 : decode prog_7_method_27_code 66 = .ok (.dup, 1) := by decide +kernel
theorem d_K_order_67 : decode prog_7_method_27_code 67 = .ok (.getfield 135, 3) := by decide +kernel
theorem d_K_order_70 : decode prog_7_method_27_code 70 = .ok (.iconst 1, 1) := by decide +kernel
theorem d_K_order_71 : decode prog_7_method_27_code 71 = .ok (.iadd, 1) := by decide +kernel
theorem d_K_order_72 : decode prog_7_method_27_code 72 = .ok (.putfield 135, 3) := by decide +kernel
theorem d_K_order_75 : decode prog_7_method_27_code 75 = .ok (.iinc 3 1, 3) := by decide +kernel
theorem d_K_order_78 : decode prog_7_method_27_code 78 = .ok (.goto (-69), 3) := by decide +kernel
theorem d_K_order_81 : decode prog_7_method_27_code 81 = .ok (.iconst 0, 1) := by decide +kernel
theorem d_K_order_82 : decode prog_7_method_27_code 82 = .ok (.istore_n 3, 1) := by decide +kernel
theorem d_K_order_83 : decode prog_7_method_27_code 83 = .ok (.iload_n 3, 1) := by decide +kernel
theorem d_K_order_84 : decode prog_7_method_27_code 84 = .ok (.aload_n 0, 1) := by decide +kernel
theorem d_K_order_85 : decode prog_7_method_27_code 85 = .ok (.getfield 73, 3) := by decide +kernel
theorem d_K_order_88 : decode prog_7_method_27_code 88 = .ok (.if_icmp .ge 95, 3) := by decide +kernel
theorem d_K_order_91 : decode prog_7_method_27_code 91 = .ok (.aload_n 0, 1) := by decide +kernel
theorem d_K_order_92 : decode prog_7_method_27_code 92 = .ok (.getfield 59, 3) := by decide +kernel
theorem d_K_order_95 : decode prog_7_method_27_code 95 = .ok (.iload_n 3, 1) := by decide +kernel
theorem d_K_order_96 : decode prog_7_method_27_code 96 = .ok (.iconst 0, 1) := by decide +kernel
theorem d_K_order_97 : decode prog_7_method_27_code 97 = .ok (.iastore, 1) := by decide +kernel
theorem d_K_order_98 : decode prog_7_method_27_code 98 = .ok (.iconst 0, 1) := by decide +kernel
theorem d_K_order_99 : decode prog_7_method_27_code 99 = .ok (.istore 4, 2) := by decide +kernel
theorem d_K_order_101 : decode prog_7_method_27_code 101 = .ok (.iload 4, 2) := by decide +kernel
theorem d_K_order_103 : decode prog_7_method_27_code 103 = .ok (.aload_n 0, 1) := by decide +kernel
theorem d_K_order_104 : decode prog_7_method_27_code 104 = .ok (.getfield 135, 3) := by decide +kernel
theorem d_K_order_107 : decode prog_7_method_27_code 107 = .ok (.if_icmp .ge 70, 3) := by decide +kernel
theorem d_K_order_110 : decode prog_7_method_27_code 110 = .ok (.iconst 0, 1) := by decide +kernel
theorem d_K_order_111 : decode prog_7_method_27_code 111 = .ok (.istore 5, 2) := by decide +kernel
theorem d_K_order_113 : decode prog_7_method_27_code 113 = .ok (.iload 5, 2) := by decide +kernel
theorem d_K_order_115 : decode prog_7_method_27_code 115 = .ok (.aload_n 0, 1) := by decide +kernel
theorem d_K_order_116 : decode prog_7_method_27_code 116 = .ok (.getfield 7, 3) := by decide +kernel
theorem d_K_order_119 : decode prog_7_method_27_code 119 = .ok (.iload_n 3, 1) := by decide +kernel
theorem d_K_order_120 : decode prog_7_method_27_code 120 = .ok (.iaload, 1) := by decide +kernel
theorem d_K_order_121 : decode prog_7_method_27_code 121 = .ok (.if_icmp .ge 50, 3) := by decide +kernel
theorem d_K_order_124 : decode prog_7_method_27_code 124 = .ok (.aload_n 0, 1) := by decide +kernel
theorem d_K_order_125 : decode prog_7_method_27_code 125 = .ok (.getfield 59, 3) := by decide +kernel
theorem d_K_order_128 : decode prog_7_method_27_code 128 = .ok (.iload_n 3, 1) := by decide +kernel
theorem d_K_order_129 : decode prog_7_method_27_code 129 = .ok (.aload_n 0, 1) := by decide +kernel
theorem d_K_order_130 : decode prog_7_method_27_code 130 = .ok (.getfield 13, 3) := by decide +kernel
theorem d_K_order_133 : decode prog_7_method_27_code 133 = .ok (.bipush 6, 2) := by decide +kernel
theorem d_K_order_135 : decode prog_7_method_27_code 135 = .ok (.iload_n 3, 1) := by decide +kernel
theorem d_K_order_136 : decode prog_7_method_27_code 136 = .ok (.imul, 1) := by decide +kernel
theorem d_K_order_137 : decode prog_7_method_27_code 137 = .ok (.iload 5, 2) := by decide +kernel
theorem d_K_order_139 : decode prog_7_method_27_code 139 = .ok (.iadd, 1) := by decide +kernel
theorem d_K_order_140 : decode prog_7_method_27_code 140 = .ok (.iaload, 1) := by decide +kernel
theorem d_K_order_141 : decode prog_7_method_27_code 141 = .ok (.aload_n 0, 1) := by decide +kernel
theorem d_K_order_142 : decode prog_7_method_27_code 142 = .ok (.getfield 56, 3) := by decide +kernel
theorem d_K_order_145 : decode prog_7_method_27_code 145 = .ok (.iload 4, 2) := by decide +kernel
theorem d_K_order_147 : decode prog_7_method_27_code 147 = .ok (.iaload, 1) := by decide +kernel
theorem d_K_order_148 : decode prog_7_method_27_code 148 = .ok (.if_icmp .ne 10, 3) := by decide +kernel
theorem d_K_order_151 : decode prog_7_method_27_code 151 = .ok (.iload 4, 2) := by decide +kernel
theorem d_K_order_153 : decode prog_7_method_27_code 153 = .ok (.iconst 1, 1) := by decide +kernel
theorem d_K_order_154 : decode prog_7_method_27_code 154 = .ok (.iadd, 1) := by decide +kernel
theorem d_K_order_155 : decode prog_7_method_27_code 155 = .ok (.goto 9, 3) := by decide +kernel
theorem d_K_order_158 : decode prog_7_method_27_code 158 = .ok (.aload_n 0, 1) := by decide +kernel
theorem d_K_order_159 : decode prog_7_method_27_code 159 = .ok (.getfield 59, 3) := by decide +kernel
theorem d_K_order_162 : decode prog_7_method_27_code 162 = .ok (.iload_n 3, 1) := by decide +kernel
theorem d_K_order_163 : decode prog_7_method_27_code 163 = .ok (.iaload, 1) := by decide +kernel
theorem d_K_order_164 : decode prog_7_method_27_code 164 = .ok (.iastore, 1) := by decide +kernel
theorem d_K_order_165 : decode prog_7_method_27_code 165 = .ok (.iinc 5 1, 3) := by decide +kernel
theorem d_K_order_168 : decode prog_7_method_27_code 168 = .ok (.goto (-55), 3) := by decide +kernel
theorem d_K_order_171 : decode prog_7_method_27_code 171 = .ok (.iinc 4 1, 3) := by decide +kernel
theorem d_K_order_174 : decode prog_7_method_27_code 174 = .ok (.goto (-73), 3) := by decide +kernel
theorem d_K_order_177 : decode prog_7_method_27_code 177 = .ok (.iinc 3 1, 3) := by decide +kernel
theorem d_K_order_180 : decode prog_7_method_27_code 180 = .ok (.goto (-97), 3) := by decide +kernel
theorem d_K_order_183 : decode prog_7_method_27_code 183 = .ok (.return_, 1) := by decide +kernel
theorem d_K_multiply_0 : decode prog_7_method_29_code 0 = .ok (.iload_n 1, 1) := by decide +kernel
theorem d_K_multiply_1 : decode prog_7_method_29_code 1 = .ok (.ifCond .ne 7, 3) := by decide +kernel
theorem d_K_multiply_4 : decode prog_7_method_29_code 4 = .ok (.lconst 1, 1) := by decide +kernel
theorem d_K_multiply_5 : decode prog_7_method_29_code 5 = .ok (.goto 11, 3) := by decide +kernel
theorem d_K_multiply_8 : decode prog_7_method_29_code 8 = .ok (.aload_n 0, 1) := by decide +kernel
theorem d_K_multiply_9 : decode prog_7_method_29_code 9 = .ok (.getfield 62, 3) := by decide +kernel
theorem d_K_multiply_12 : decode prog_7_method_29_code 12 = .ok (.iload_n 1, 1) := by decide +kernel
theorem d_K_multiply_13 : decode prog_7_method_29_code 13 = .ok (.iconst 1, 1) := by decide +kernel
theorem d_K_multiply_14 : decode prog_7_method_29_code 14 = .ok (.isub, 1) := by decide +kernel
theorem d_K_multiply_15 : decode prog_7_method_29_code 15 = .ok (.laload, 1) := by decide +kernel
theorem d_K_multiply_16 : decode prog_7_method_29_code 16 = .ok (.lstore_n 2, 1) := by decide +kernel
theorem d_K_multiply_17 : decode prog_7_method_29_code 17 = .ok (.iload_n 1, 1) := by decide +kernel
theorem d_K_multiply_18 : decode prog_7_method_29_code 18 = .ok (.ifCond .ne 7, 3) := by decide +kernel
theorem d_K_multiply_21 : decode prog_7_method_29_code 21 = .ok (.lconst 0, 1) := by decide +kernel
theorem d_K_multiply_22 : decode prog_7_method_29_code 22 = .ok (.goto 11, 3) := by decide +kernel
theorem d_K_multiply_25 : decode prog_7_method_29_code 25 = .ok (.aload_n 0, 1) := by decide +kernel
theorem d_K_multiply_26 : decode prog_7_method_29_code 26 = .ok (.getfield 66, 3) := by decide +kernel
theorem d_K_multiply_29 : decode prog_7_method_29_code 29 = .ok (.iload_n 1, 1) := by decide +kernel
theorem d_K_multiply_30 : decode prog_7_method_29_code 30 = .ok (.iconst 1, 1) := by decide +kernel
theorem d_K_multiply_31 : decode prog_7_method_29_code 31 = .ok (.isub, 1) := by decide +kernel
theorem d_K_multiply_32 : decode prog_7_method_29_code 32 = .ok (.laload, 1) := by decide +kernel
theorem d_K_multiply_33 : decode prog_7_method_29_code 33 = .ok (.lstore 4, 2) := by decide +kernel
theorem d_K_multiply_35 : decode prog_7_method_29_code 35 = .ok (.iconst 0, 1) := by decide +kernel
theorem d_K_multiply_36 : decode prog_7_method_29_code 36 = .ok (.istore 6, 2) := by decide +kernel
theorem d_K_multiply_38 : decode prog_7_method_29_code 38 = .ok (.iload 6, 2) := by decide +kernel
theorem d_K_multiply_40 : decode prog_7_method_29_code 40 = .ok (.aload_n 0, 1) := by decide +kernel
theorem d_K_multiply_41 : decode prog_7_method_29_code 41 = .ok (.getfield 73, 3) := by decide +kernel
theorem d_K_multiply_44 : decode prog_7_method_29_code 44 = .ok (.if_icmp .ge 129, 3) := by decide +kernel
theorem d_K_multiply_47 : decode prog_7_method_29_code 47 = .ok (.aload_n 0, 1) := by decide +kernel
theorem d_K_multiply_48 : decode prog_7_method_29_code 48 = .ok (.getfield 59, 3) := by decide +kernel
theorem d_K_multiply_51 : decode prog_7_method_29_code 51 = .ok (.iload 6, 2) := by decide +kernel
theorem d_K_multiply_53 : decode prog_7_method_29_code 53 = .ok (.iaload, 1) := by decide +kernel
theorem d_K_multiply_54 : decode prog_7_method_29_code 54 = .ok (.iload_n 1, 1) := by decide +kernel
theorem d_K_multiply_55 : decode prog_7_method_29_code 55 = .ok (.if_icmp .eq 6, 3) := by decide +kernel
theorem d_K_multiply_58 : decode prog_7_method_29_code 58 = .ok (.goto 109, 3) := by decide +kernel
theorem d_K_multiply_61 : decode prog_7_method_29_code 61 = .ok (.aload_n 0, 1) := by decide +kernel
theorem d_K_multiply_62 : decode prog_7_method_29_code 62 = .ok (.iload 6, 2) := by decide +kernel
theorem d_K_multiply_64 : decode prog_7_method_29_code 64 = .ok (.invokevirtual 138, 3) := by decide +kernel
theorem d_K_multiply_67 : decode prog_7_method_29_code 67 = .ok (.istore 7, 2) := by decide +kernel
theorem d_K_multiply_69 : decode prog_7_method_29_code 69 = .ok (.iload 6, 2) := by decide +kernel
theorem d_K_multiply_71 : decode prog_7_method_29_code 71 = .ok (.aload_n 0, 1) := by decide +kernel
theorem d_K_multiply_72 : decode prog_7_method_29_code 72 = .ok (.getfield 141, 3) := by decide +kernel
theorem d_K_multiply_75 : decode prog_7_method_29_code 75 = .ok (.if_icmp .ne 20, 3) := by decide +kernel
theorem d_K_multiply_78 : decode prog_7_method_29_code 78 = .ok (.iload 7, 2) := by decide +kernel
theorem d_K_multiply_80 : decode prog_7_method_29_code 80 = .ok (.aload_n 0, 1) := by decide +kernel
theorem d_K_multiply_81 : decode prog_7_method_29_code 81 = .ok (.getfield 144, 3) := by decide +kernel
theorem d_K_multiply_84 : decode prog_7_method_29_code 84 = .ok (.if_icmp .ne 7, 3) := by decide +kernel
theorem d_K_multiply_87 : decode prog_7_method_29_code 87 = .ok (.lconst 1, 1) := by decide +kernel
theorem d_K_multiply_88 : decode prog_7_method_29_code 88 = .ok (.goto 21, 3) := by decide +kernel
theorem d_K_multiply_91 : decode prog_7_method_29_code 91 = .ok (.lconst 0, 1) := by decide +kernel
theorem d_K_multiply_92 : decode prog_7_method_29_code 92 = .ok (.goto 17, 3) := by decide +kernel
theorem d_K_multiply_95 : decode prog_7_method_29_code 95 = .ok (.aload_n 0, 1) := by decide +kernel
theorem d_K_multiply_96 : decode prog_7_method_29_code 96 = .ok (.getfield 16, 3) := by decide +kernel
theorem d_K_multiply_99 : decode prog_7_method_29_code 99 = .ok (.bipush 64, 2) := by decide +kernel
theorem d_K_multiply_101 : decode prog_7_method_29_code 101 = .ok (.iload 6, 2) := by decide +kernel
theorem d_K_multiply_103 : decode prog_7_method_29_code 103 = .ok (.imul, 1) := by decide +kernel
theorem d_K_multiply_104 : decode prog_7_method_29_code 104 = .ok (.iload 7, 2) := by decide +kernel
theorem d_K_multiply_106 : decode prog_7_method_29_code 106 = .ok (.iadd, 1) := by decide +kernel
theorem d_K_multiply_107 : decode prog_7_method_29_code 107 = .ok (.iaload, 1) := by decide +kernel
theorem d_K_multiply_108 : decode prog_7_method_29_code 108 = .ok (.i2l, 1) := by decide +kernel
theorem d_K_multiply_109 : decode prog_7_method_29_code 109 = .ok (.lstore 8, 2) := by decide +kernel
theorem d_K_multiply_111 : decode prog_7_method_29_code 111 = .ok (.iload 6, 2) := by decide +kernel
theorem d_K_multiply_113 : decode prog_7_method_29_code 113 = .ok (.aload_n 0, 1) := by decide +kernel
theorem d_K_multiply_114 : decode prog_7_method_29_code 114 = .ok (.getfield 141, 3) := by decide +kernel
theorem d_K_multiply_117 : decode prog_7_method_29_code 117 = .ok (.if_icmp .ne 7, 3) := by decide +kernel
theorem d_K_multiply_120 : decode prog_7_method_29_code 120 = .ok (.lconst 0, 1) := by decide +kernel
theorem d_K_multiply_121 : decode prog_7_method_29_code 121 = .ok (.goto 17, 3) := by decide +kernel
theorem d_K_multiply_124 : decode prog_7_method_29_code 124 = .ok (.aload_n 0, 1) := by decide +kernel
theorem d_K_multiply_125 : decode prog_7_method_29_code 125 = .ok (.getfield 19, 3) := by decide +kernel
theorem d_K_multiply_128 : decode prog_7_method_29_code 128 = .ok (.bipush 64, 2) := by decide +kernel
theorem d_K_multiply_130 : decode prog_7_method_29_code 130 = .ok (.iload 6, 2) := by decide +kernel
theorem d_K_multiply_132 : decode prog_7_method_29_code 132 = .ok (.imul, 1) := by decide +kernel
theorem d_K_multiply_133 : decode prog_7_method_29_code 133 = .ok (.iload 7, 2) := by decide +kernel
theorem d_K_multiply_135 : decode prog_7_method_29_code 135 = .ok (.iadd, 1) := by decide +kernel
theorem d_K_multiply_136 : decode prog_7_method_29_code 136 = .ok (.iaload, 1) := by decide +kernel
theorem d_K_multiply_137 : decode prog_7_method_29_code 137 = .ok (.i2l, 1) := by decide +kernel
theorem d_K_multiply_138 : decode prog_7_method_29_code 138 = .ok (.lstore 10, 2) := by decide +kernel
theorem d_K_multiply_140 : decode prog_7_method_29_code 140 = .ok (.lload_n 2, 1) := by decide +kernel
theorem d_K_multiply_141 : decode prog_7_method_29_code 141 = .ok (.lload 8, 2) := by decide +kernel
theorem d_K_multiply_143 : decode prog_7_method_29_code 143 = .ok (.lmul, 1) := by decide +kernel
theorem d_K_multiply_144 : decode prog_7_method_29_code 144 = .ok (.lload 4, 2) := by decide +kernel
theorem d_K_multiply_146 : decode prog_7_method_29_code 146 = .ok (.lload 10, 2) := by decide +kernel
theorem d_K_multiply_148 : decode prog_7_method_29_code 148 = .ok (.lmul, 1) := by decide +kernel
theorem d_K_multiply_149 : decode prog_7_method_29_code 149 = .ok (.lsub, 1) := by decide +kernel
theorem d_K_multiply_150 : decode prog_7_method_29_code 150 = .ok (.lstore 12, 2) := by decide +kernel
theorem d_K_multiply_152 : decode prog_7_method_29_code 152 = .ok (.lload_n 2, 1) := by decide +kernel
theorem d_K_multiply_153 : decode prog_7_method_29_code 153 = .ok (.lload 10, 2) := by decide +kernel
theorem d_K_multiply_155 : decode prog_7_method_29_code 155 = .ok (.lmul, 1) := by decide +kernel
theorem d_K_multiply_156 : decode prog_7_method_29_code 156 = .ok (.lload 4, 2) := by decide +kernel
theorem d_K_multiply_158 : decode prog_7_method_29_code 158 = .ok (.lload 8, 2) := by decide +kernel
theorem d_K_multiply_160 : decode prog_7_method_29_code 160 = .ok (.lmul, 1) := by decide +kernel
theorem d_K_multiply_161 : decode prog_7_method_29_code 161 = .ok (.ladd, 1) := by decide +kernel
theorem d_K_multiply_162 : decode prog_7_method_29_code 162 = .ok (.lstore 4, 2) := by decide +kernel
theorem d_K_multiply_164 : decode prog_7_method_29_code 164 = .ok (.lload 12, 2) := by decide +kernel
theorem d_K_multiply_166 : decode prog_7_method_29_code 166 = .ok (.lstore_n 2, 1) := by decide +kernel
theorem d_K_multiply_167 : decode prog_7_method_29_code 167 = .ok (.iinc 6 1, 3) := by decide +kernel
theorem d_K_multiply_170 : decode prog_7_method_29_code 170 = .ok (.goto (-132), 3) := by decide +kernel
theorem d_K_multiply_173 : decode prog_7_method_29_code 173 = .ok (.aload_n 0, 1) := by decide +kernel
theorem d_K_multiply_174 : decode prog_7_method_29_code 174 = .ok (.getfield 62, 3) := by decide +kernel
theorem d_K_multiply_177 : decode prog_7_method_29_code 177 = .ok (.iload_n 1, 1) := by decide +kernel
theorem d_K_multiply_178 : decode prog_7_method_29_code 178 = .ok (.lload_n 2, 1) := by decide +kernel
theorem d_K_multiply_179 : decode prog_7_method_29_code 179 = .ok (.lastore, 1) := by decide +kernel
theorem d_K_multiply_180 : decode prog_7_method_29_code 180 = .ok (.aload_n 0, 1) := by decide +kernel
theorem d_K_multiply_181 : decode prog_7_method_29_code 181 = .ok (.getfield 66, 3) := by decide +kernel
theorem d_K_multiply_184 : decode prog_7_method_29_code 184 = .ok (.iload_n 1, 1) := by decide +kernel
theorem d_K_multiply_185 : decode prog_7_method_29_code 185 = .ok (.lload 4, 2) := by decide +kernel
theorem d_K_multiply_187 : decode prog_7_method_29_code 187 = .ok (.lastore, 1) := by decide +kernel
theorem d_K_multiply_188 : decode prog_7_method_29_code 188 = .ok (.return_, 1) := by decide +kernel
theorem d_K_indexOf_0 : decode prog_7_method_28_code 0 = .ok (.iconst 0, 1) := by decide +kernel
theorem d_K_indexOf_1 : decode prog_7_method_28_code 1 = .ok (.istore_n 2, 1) := by decide +kernel
theorem d_K_indexOf_2 : decode prog_7_method_28_code 2 = .ok (.iconst 0, 1) := by decide +kernel
theorem d_K_indexOf_3 : decode prog_7_method_28_code 3 = .ok (.istore_n 3, 1) := by decide +kernel
theorem d_K_indexOf_4 : decode prog_7_method_28_code 4 = .ok (.iload_n 3, 1) := by decide +kernel
theorem d_K_indexOf_5 : decode prog_7_method_28_code 5 = .ok (.aload_n 0, 1) := by decide +kernel
theorem d_K_indexOf_6 : decode prog_7_method_28_code 6 = .ok (.getfield 7, 3) := by decide +kernel
theorem d_K_indexOf_9 : decode prog_7_method_28_code 9 = .ok (.iload_n 1, 1) := by decide +kernel
theorem d_K_indexOf_10 : decode prog_7_method_28_code 10 = .ok (.iaload, 1) := by decide +kernel
theorem d_K_indexOf_11 : decode prog_7_method_28_code 11 = .ok (.if_icmp .ge 30, 3) := by decide +kernel
theorem d_K_indexOf_14 : decode prog_7_method_28_code 14 = .ok (.iload_n 2, 1) := by decide +kernel
theorem d_K_indexOf_15 : decode prog_7_method_28_code 15 = .ok (.aload_n 0, 1) := by decide +kernel
theorem d_K_indexOf_16 : decode prog_7_method_28_code 16 = .ok (.getfield 53, 3) := by decide +kernel
theorem d_K_indexOf_19 : decode prog_7_method_28_code 19 = .ok (.aload_n 0, 1) := by decide +kernel
theorem d_K_indexOf_20 : decode prog_7_method_28_code 20 = .ok (.getfield 13, 3) := by decide +kernel
theorem d_K_indexOf_23 : decode prog_7_method_28_code 23 = .ok (.bipush 6, 2) := by decide +kernel
theorem d_K_indexOf_25 : decode prog_7_method_28_code 25 = .ok (.iload_n 1, 1) := by decide +kernel
theorem d_K_indexOf_26 : decode prog_7_method_28_code 26 = .ok (.imul, 1) := by decide +kernel
theorem d_K_indexOf_27 : decode prog_7_method_28_code 27 = .ok (.iload_n 3, 1) := by decide +kernel
theorem d_K_indexOf_28 : decode prog_7_method_28_code 28 = .ok (.iadd, 1) := by decide +kernel
theorem d_K_indexOf_29 : decode prog_7_method_28_code 29 = .ok (.iaload, 1) := by decide +kernel
theorem d_K_indexOf_30 : decode prog_7_method_28_code 30 = .ok (.iaload, 1) := by decide +kernel
theorem d_K_indexOf_31 : decode prog_7_method_28_code 31 = .ok (.iload_n 3, 1) := by decide +kernel
theorem d_K_indexOf_32 : decode prog_7_method_28_code 32 = .ok (.ishl, 1) := by decide +kernel
theorem d_K_indexOf_33 : decode prog_7_method_28_code 33 = .ok (.ior, 1) := by decide +kernel
theorem d_K_indexOf_34 : decode prog_7_method_28_code 34 = .ok (.istore_n 2, 1) := by decide +kernel
theorem d_K_indexOf_35 : decode prog_7_method_28_code 35 = .ok (.iinc 3 1, 3) := by decide +kernel
theorem d_K_indexOf_38 : decode prog_7_method_28_code 38 = .ok (.goto (-34), 3) := by decide +kernel
theorem d_K_indexOf_41 : decode prog_7_method_28_code 41 = .ok (.iload_n 2, 1) := by decide +kernel
theorem d_K_indexOf_42 : decode prog_7_method_28_code 42 = .ok (.ireturn, 1) := by decide +kernel
theorem d_K_slope_0 : decode prog_7_method_33_code 0 = .ok (.aload_n 0, 1) := by decide +kernel
theorem d_K_slope_1 : decode prog_7_method_33_code 1 = .ok (.iload_n 1, 1) := by decide +kernel
theorem d_K_slope_2 : decode prog_7_method_33_code 2 = .ok (.putfield 141, 3) := by decide +kernel
theorem d_K_slope_5 : decode prog_7_method_33_code 5 = .ok (.aload_n 0, 1) := by decide +kernel
theorem d_K_slope_6 : decode prog_7_method_33_code 6 = .ok (.iload_n 2, 1) := by decide +kernel
theorem d_K_slope_7 : decode prog_7_method_33_code 7 = .ok (.putfield 144, 3) := by decide +kernel
theorem d_K_slope_10 : decode prog_7_method_33_code 10 = .ok (.aload_n 0, 1) := by decide +kernel
theorem d_K_slope_11 : decode prog_7_method_33_code 11 = .ok (.aload_n 0, 1) := by decide +kernel
theorem d_K_slope_12 : decode prog_7_method_33_code 12 = .ok (.iload_n 1, 1) := by decide +kernel
theorem d_K_slope_13 : decode prog_7_method_33_code 13 = .ok (.iload_n 2, 1) := by decide +kernel
theorem d_K_slope_14 : decode prog_7_method_33_code 14 = .ok (.invokevirtual 80, 3) := by decide +kernel
theorem d_K_slope_17 : decode prog_7_method_33_code 17 = .ok (.iload_n 3, 1) := by decide +kernel
theorem d_K_slope_18 : decode prog_7_method_33_code 18 = .ok (.iload 4, 2) := by decide +kernel
theorem d_K_slope_20 : decode prog_7_method_33_code 20 = .ok (.invokevirtual 167, 3) := by decide +kernel
theorem d_K_slope_23 : decode prog_7_method_33_code 23 = .ok (.lreturn, 1) := by decide +kernel
theorem d_K_total_0 : decode prog_7_method_34_code 0 = .ok (.aload_n 0, 1) := by decide +kernel
theorem d_K_total_1 : decode prog_7_method_34_code 1 = .ok (.iconst 0, 1) := by decide +kernel
theorem d_K_total_2 : decode prog_7_method_34_code 2 = .ok (.putfield 69, 3) := by decide +kernel
theorem d_K_total_5 : decode prog_7_method_34_code 5 = .ok (.iconst 0, 1) := by decide +kernel
theorem d_K_total_6 : decode prog_7_method_34_code 6 = .ok (.istore_n 2, 1) := by decide +kernel
theorem d_K_total_7 : decode prog_7_method_34_code 7 = .ok (.iload_n 1, 1) := by decide +kernel
theorem d_K_total_8 : decode prog_7_method_34_code 8 = .ok (.tableswitch 142 0 3 #[32, 37, 64, 126], 32) := by decide +kernel
theorem d_K_total_40 : decode prog_7_method_34_code 40 = .ok (.aload_n 0, 1) := by decide +kernel
theorem d_K_total_41 : decode prog_7_method_34_code 41 = .ok (.getfield 73, 3) := by decide +kernel
theorem d_K_total_44 : decode prog_7_method_34_code 44 = .ok (.ireturn, 1) := by decide +kernel
theorem d_K_total_45 : decode prog_7_method_34_code 45 = .ok (.iconst 0, 1) := by decide +kernel
theorem d_K_total_46 : decode prog_7_method_34_code 46 = .ok (.istore_n 3, 1) := by decide +kernel
theorem d_K_total_47 : decode prog_7_method_34_code 47 = .ok (.iload_n 3, 1) := by decide +kernel
theorem d_K_total_48 : decode prog_7_method_34_code 48 = .ok (.aload_n 0, 1) := by decide +kernel
theorem d_K_total_49 : decode prog_7_method_34_code 49 = .ok (.getfield 73, 3) := by decide +kernel
theorem d_K_total_52 : decode prog_7_method_34_code 52 = .ok (.if_icmp .ge 18, 3) := by decide +kernel
theorem d_K_total_55 : decode prog_7_method_34_code 55 = .ok (.iload_n 2, 1) := by decide +kernel
theorem d_K_total_56 : decode prog_7_method_34_code 56 = .ok (.aload_n 0, 1) := by decide +kernel
theorem d_K_total_57 : decode prog_7_method_34_code 57 = .ok (.getfield 7, 3) := by decide +kernel
theorem d_K_total_60 : decode prog_7_method_34_code 60 = .ok (.iload_n 3, 1) := by decide +kernel
theorem d_K_total_61 : decode prog_7_method_34_code 61 = .ok (.iaload, 1) := by decide +kernel
theorem d_K_total_62 : decode prog_7_method_34_code 62 = .ok (.iadd, 1) := by decide +kernel
theorem d_K_total_63 : decode prog_7_method_34_code 63 = .ok (.istore_n 2, 1) := by decide +kernel
theorem d_K_total_64 : decode prog_7_method_34_code 64 = .ok (.iinc 3 1, 3) := by decide +kernel
theorem d_K_total_67 : decode prog_7_method_34_code 67 = .ok (.goto (-20), 3) := by decide +kernel
theorem d_K_total_70 : decode prog_7_method_34_code 70 = .ok (.iload_n 2, 1) := by decide +kernel
theorem d_K_total_71 : decode prog_7_method_34_code 71 = .ok (.ireturn, 1) := by decide +kernel
theorem d_K_total_72 : decode prog_7_method_34_code 72 = .ok (.iconst 0, 1) := by decide +kernel
theorem d_K_total_73 : decode prog_7_method_34_code 73 = .ok (.istore_n 3, 1) := by decide +kernel
theorem d_K_total_74 : decode prog_7_method_34_code 74 = .ok (.iload_n 3, 1) := by decide +kernel
theorem d_K_total_75 : decode prog_7_method_34_code 75 = .ok (.aload_n 0, 1) := by decide +kernel
theorem d_K_total_76 : decode prog_7_method_34_code 76 = .ok (.getfield 73, 3) := by decide +kernel
theorem d_K_total_79 : decode prog_7_method_34_code 79 = .ok (.if_icmp .ge 53, 3) := by decide +kernel
theorem d_K_total_82 : decode prog_7_method_34_code 82 = .ok (.iconst 0, 1) := by decide +kernel
theorem d_K_total_83 : decode prog_7_method_34_code 83 = .ok (.istore 4, 2) := by decide +kernel
theorem d_K_total_85 : decode prog_7_method_34_code 85 = .ok (.iload 4, 2) := by decide +kernel
theorem d_K_total_87 : decode prog_7_method_34_code 87 = .ok (.aload_n 0, 1) := by decide +kernel
theorem d_K_total_88 : decode prog_7_method_34_code 88 = .ok (.getfield 7, 3) := by decide +kernel
theorem d_K_total_91 : decode prog_7_method_34_code 91 = .ok (.iload_n 3, 1) := by decide +kernel
theorem d_K_total_92 : decode prog_7_method_34_code 92 = .ok (.iaload, 1) := by decide +kernel
theorem d_K_total_93 : decode prog_7_method_34_code 93 = .ok (.if_icmp .ge 33, 3) := by decide +kernel
theorem d_K_total_96 : decode prog_7_method_34_code 96 = .ok (.iload_n 2, 1) := by decide +kernel
theorem d_K_total_97 : decode prog_7_method_34_code 97 = .ok (.aload_n 0, 1) := by decide +kernel
theorem d_K_total_98 : decode prog_7_method_34_code 98 = .ok (.getfield 13, 3) := by decide +kernel
theorem d_K_total_101 : decode prog_7_method_34_code 101 = .ok (.bipush 6, 2) := by decide +kernel
theorem d_K_total_103 : decode prog_7_method_34_code 103 = .ok (.iload_n 3, 1) := by decide +kernel
theorem d_K_total_104 : decode prog_7_method_34_code 104 = .ok (.imul, 1) := by decide +kernel
theorem d_K_total_105 : decode prog_7_method_34_code 105 = .ok (.iload 4, 2) := by decide +kernel
theorem d_K_total_107 : decode prog_7_method_34_code 107 = .ok (.iadd, 1) := by decide +kernel
theorem d_K_total_108 : decode prog_7_method_34_code 108 = .ok (.iaload, 1) := by decide +kernel
theorem d_K_total_109 : decode prog_7_method_34_code 109 = .ok (.iconst (-1), 1) := by decide +kernel
theorem d_K_total_110 : decode prog_7_method_34_code 110 = .ok (.if_icmp .ne 7, 3) := by decide +kernel
theorem d_K_total_113 : decode prog_7_method_34_code 113 = .ok (.iconst 1, 1) := by decide +kernel
theorem d_K_total_114 : decode prog_7_method_34_code 114 = .ok (.goto 4, 3) := by decide +kernel
theorem d_K_total_117 : decode prog_7_method_34_code 117 = .ok (.iconst 0, 1) := by decide +kernel
theorem d_K_total_118 : decode prog_7_method_34_code 118 = .ok (.iadd, 1) := by decide +kernel
theorem d_K_total_119 : decode prog_7_method_34_code 119 = .ok (.istore_n 2, 1) := by decide +kernel
theorem d_K_total_120 : decode prog_7_method_34_code 120 = .ok (.iinc 4 1, 3) := by decide +kernel
theorem d_K_total_123 : decode prog_7_method_34_code 123 = .ok (.goto (-38), 3) := by decide +kernel
theorem d_K_total_126 : decode prog_7_method_34_code 126 = .ok (.iinc 3 1, 3) := by decide +kernel
theorem d_K_total_129 : decode prog_7_method_34_code 129 = .ok (.goto (-55), 3) := by decide +kernel
theorem d_K_total_132 : decode prog_7_method_34_code 132 = .ok (.iload_n 2, 1) := by decide +kernel
theorem d_K_total_133 : decode prog_7_method_34_code 133 = .ok (.ireturn, 1) := by decide +kernel
theorem d_K_total_134 : decode prog_7_method_34_code 134 = .ok (.aload_n 0, 1) := by decide +kernel
theorem d_K_total_135 : decode prog_7_method_34_code 135 = .ok (.invokevirtual 90, 3) := by decide +kernel
theorem d_K_total_138 : decode prog_7_method_34_code 138 = .ok (.ifCond .eq 10, 3) := by decide +kernel
theorem d_K_total_141 : decode prog_7_method_34_code 141 = .ok (.aload_n 0, 1) := by decide +kernel
theorem d_K_total_142 : decode prog_7_method_34_code 142 = .ok (.getfield 87, 3) := by decide +kernel
theorem d_K_total_145 : decode prog_7_method_34_code 145 = .ok (.goto 4, 3) := by decide +kernel
theorem d_K_total_148 : decode prog_7_method_34_code 148 = .ok (.iconst 0, 1) := by decide +kernel
theorem d_K_total_149 : decode prog_7_method_34_code 149 = .ok (.ireturn, 1) := by decide +kernel
theorem d_K_total_150 : decode prog_7_method_34_code 150 = .ok (.iconst (-1), 1) := by decide +kernel
theorem d_K_total_151 : decode prog_7_method_34_code 151 = .ok (.ireturn, 1) := by decide +kernel
