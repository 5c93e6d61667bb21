-- DECODE rows, laid by program
theorem d_JA_fill_0 : decode prog_15_method_103_code 0 = .ok (.iconst 0, 1) := by decide +kernel
theorem d_JA_fill_1 : decode prog_15_method_103_code 1 = .ok (.istore_n 2, 1) := by decide +kernel
theorem d_JA_fill_2 : decode prog_15_method_103_code 2 = .ok (.aload_n 0, 1) := by decide +kernel
theorem d_JA_fill_3 : decode prog_15_method_103_code 3 = .ok (.arraylength, 1) := by decide +kernel
theorem d_JA_fill_4 : decode prog_15_method_103_code 4 = .ok (.istore_n 3, 1) := by decide +kernel
theorem d_JA_fill_5 : decode prog_15_method_103_code 5 = .ok (.iload_n 2, 1) := by decide +kernel
theorem d_JA_fill_6 : decode prog_15_method_103_code 6 = .ok (.iload_n 3, 1) := by decide +kernel
theorem d_JA_fill_7 : decode prog_15_method_103_code 7 = .ok (.if_icmp .ge 13, 3) := by decide +kernel
theorem d_JA_fill_10 : decode prog_15_method_103_code 10 = .ok (.aload_n 0, 1) := by decide +kernel
theorem d_JA_fill_11 : decode prog_15_method_103_code 11 = .ok (.iload_n 2, 1) := by decide +kernel
theorem d_JA_fill_12 : decode prog_15_method_103_code 12 = .ok (.iload_n 1, 1) := by decide +kernel
theorem d_JA_fill_13 : decode prog_15_method_103_code 13 = .ok (.iastore, 1) := by decide +kernel
theorem d_JA_fill_14 : decode prog_15_method_103_code 14 = .ok (.iinc 2 1, 3) := by decide +kernel
theorem d_JA_fill_17 : decode prog_15_method_103_code 17 = .ok (.goto (-12), 3) := by decide +kernel
theorem d_JA_fill_20 : decode prog_15_method_103_code 20 = .ok (.return_, 1) := by decide +kernel
theorem d_JI_bitCount_0 : decode prog_10_method_49_code 0 = .ok (.iload_n 0, 1) := by decide +kernel
theorem d_JI_bitCount_1 : decode prog_10_method_49_code 1 = .ok (.iload_n 0, 1) := by decide +kernel
theorem d_JI_bitCount_2 : decode prog_10_method_49_code 2 = .ok (.iconst 1, 1) := by decide +kernel
theorem d_JI_bitCount_3 : decode prog_10_method_49_code 3 = .ok (.iushr, 1) := by decide +kernel
theorem d_JI_bitCount_4 : decode prog_10_method_49_code 4 = .ok (.ldc_w 265, 3) := by decide +kernel
theorem d_JI_bitCount_7 : decode prog_10_method_49_code 7 = .ok (.iand, 1) := by decide +kernel
theorem d_JI_bitCount_8 : decode prog_10_method_49_code 8 = .ok (.isub, 1) := by decide +kernel
theorem d_JI_bitCount_9 : decode prog_10_method_49_code 9 = .ok (.istore_n 0, 1) := by decide +kernel
theorem d_JI_bitCount_10 : decode prog_10_method_49_code 10 = .ok (.iload_n 0, 1) := by decide +kernel
theorem d_JI_bitCount_11 : decode prog_10_method_49_code 11 = .ok (.ldc_w 266, 3) := by decide +kernel
theorem d_JI_bitCount_14 : decode prog_10_method_49_code 14 = .ok (.iand, 1) := by decide +kernel
theorem d_JI_bitCount_15 : decode prog_10_method_49_code 15 = .ok (.iload_n 0, 1) := by decide +kernel
theorem d_JI_bitCount_16 : decode prog_10_method_49_code 16 = .ok (.iconst 2, 1) := by decide +kernel
theorem d_JI_bitCount_17 : decode prog_10_method_49_code 17 = .ok (.iushr, 1) := by decide +kernel
theorem d_JI_bitCount_18 : decode prog_10_method_49_code 18 = .ok (.ldc_w 266, 3) := by decide +kernel
theorem d_JI_bitCount_21 : decode prog_10_method_49_code 21 = .ok (.iand, 1) := by decide +kernel
theorem d_JI_bitCount_22 : decode prog_10_method_49_code 22 = .ok (.iadd, 1) := by decide +kernel
theorem d_JI_bitCount_23 : decode prog_10_method_49_code 23 = .ok (.istore_n 0, 1) := by decide +kernel
theorem d_JI_bitCount_24 : decode prog_10_method_49_code 24 = .ok (.iload_n 0, 1) := by decide +kernel
theorem d_JI_bitCount_25 : decode prog_10_method_49_code 25 = .ok (.iload_n 0, 1) := by decide +kernel
theorem d_JI_bitCount_26 : decode prog_10_method_49_code 26 = .ok (.iconst 4, 1) := by decide +kernel
theorem d_JI_bitCount_27 : decode prog_10_method_49_code 27 = .ok (.iushr, 1) := by decide +kernel
theorem d_JI_bitCount_28 : decode prog_10_method_49_code 28 = .ok (.iadd, 1) := by decide +kernel
theorem d_JI_bitCount_29 : decode prog_10_method_49_code 29 = .ok (.ldc_w 267, 3) := by decide +kernel
theorem d_JI_bitCount_32 : decode prog_10_method_49_code 32 = .ok (.iand, 1) := by decide +kernel
theorem d_JI_bitCount_33 : decode prog_10_method_49_code 33 = .ok (.istore_n 0, 1) := by decide +kernel
theorem d_JI_bitCount_34 : decode prog_10_method_49_code 34 = .ok (.iload_n 0, 1) := by decide +kernel
theorem d_JI_bitCount_35 : decode prog_10_method_49_code 35 = .ok (.iload_n 0, 1) := by decide +kernel
theorem d_JI_bitCount_36 : decode prog_10_method_49_code 36 = .ok (.bipush 8, 2) := by decide +kernel
theorem d_JI_bitCount_38 : decode prog_10_method_49_code 38 = .ok (.iushr, 1) := by decide +kernel
theorem d_JI_bitCount_39 : decode prog_10_method_49_code 39 = .ok (.iadd, 1) := by decide +kernel
theorem d_JI_bitCount_40 : decode prog_10_method_49_code 40 = .ok (.istore_n 0, 1) := by decide +kernel
theorem d_JI_bitCount_41 : decode prog_10_method_49_code 41 = .ok (.iload_n 0, 1) := by decide +kernel
theorem d_JI_bitCount_42 : decode prog_10_method_49_code 42 = .ok (.iload_n 0, 1) := by decide +kernel
theorem d_JI_bitCount_43 : decode prog_10_method_49_code 43 = .ok (.bipush 16, 2) := by decide +kernel
theorem d_JI_bitCount_45 : decode prog_10_method_49_code 45 = .ok (.iushr, 1) := by decide +kernel
theorem d_JI_bitCount_46 : decode prog_10_method_49_code 46 = .ok (.iadd, 1) := by decide +kernel
theorem d_JI_bitCount_47 : decode prog_10_method_49_code 47 = .ok (.istore_n 0, 1) := by decide +kernel
theorem d_JI_bitCount_48 : decode prog_10_method_49_code 48 = .ok (.iload_n 0, 1) := by decide +kernel
theorem d_JI_bitCount_49 : decode prog_10_method_49_code 49 = .ok (.bipush 63, 2) := by decide +kernel
theorem d_JI_bitCount_51 : decode prog_10_method_49_code 51 = .ok (.iand, 1) := by decide +kernel
theorem d_JI_bitCount_52 : decode prog_10_method_49_code 52 = .ok (.ireturn, 1) := by decide +kernel
theorem d_JI_numberOfTrailingZeros_0 : decode prog_10_method_48_code 0 = .ok (.iload_n 0, 1) := by decide +kernel
theorem d_JI_numberOfTrailingZeros_1 : decode prog_10_method_48_code 1 = .ok (.iconst (-1), 1) := by decide +kernel
theorem d_JI_numberOfTrailingZeros_2 : decode prog_10_method_48_code 2 = .ok (.ixor, 1) := by decide +kernel
theorem d_JI_numberOfTrailingZeros_3 : decode prog_10_method_48_code 3 = .ok (.iload_n 0, 1) := by decide +kernel
theorem d_JI_numberOfTrailingZeros_4 : decode prog_10_method_48_code 4 = .ok (.iconst 1, 1) := by decide +kernel
theorem d_JI_numberOfTrailingZeros_5 : decode prog_10_method_48_code 5 = .ok (.isub, 1) := by decide +kernel
theorem d_JI_numberOfTrailingZeros_6 : decode prog_10_method_48_code 6 = .ok (.iand, 1) := by decide +kernel
theorem d_JI_numberOfTrailingZeros_7 : decode prog_10_method_48_code 7 = .ok (.istore_n 0, 1) := by decide +kernel
theorem d_JI_numberOfTrailingZeros_8 : decode prog_10_method_48_code 8 = .ok (.iload_n 0, 1) := by decide +kernel
theorem d_JI_numberOfTrailingZeros_9 : decode prog_10_method_48_code 9 = .ok (.ifCond .gt 8, 3) := by decide +kernel
theorem d_JI_numberOfTrailingZeros_12 : decode prog_10_method_48_code 12 = .ok (.iload_n 0, 1) := by decide +kernel
theorem d_JI_numberOfTrailingZeros_13 : decode prog_10_method_48_code 13 = .ok (.bipush 32, 2) := by decide +kernel
theorem d_JI_numberOfTrailingZeros_15 : decode prog_10_method_48_code 15 = .ok (.iand, 1) := by decide +kernel
theorem d_JI_numberOfTrailingZeros_16 : decode prog_10_method_48_code 16 = .ok (.ireturn, 1) := by decide +kernel
theorem d_JI_numberOfTrailingZeros_17 : decode prog_10_method_48_code 17 = .ok (.iconst 1, 1) := by decide +kernel
theorem d_JI_numberOfTrailingZeros_18 : decode prog_10_method_48_code 18 = .ok (.istore_n 1, 1) := by decide +kernel
theorem d_JI_numberOfTrailingZeros_19 : decode prog_10_method_48_code 19 = .ok (.iload_n 0, 1) := by decide +kernel
theorem d_JI_numberOfTrailingZeros_20 : decode prog_10_method_48_code 20 = .ok (.ldc_w 264, 3) := by decide +kernel
theorem d_JI_numberOfTrailingZeros_23 : decode prog_10_method_48_code 23 = .ok (.if_icmp .le 11, 3) := by decide +kernel
theorem d_JI_numberOfTrailingZeros_26 : decode prog_10_method_48_code 26 = .ok (.iinc 1 16, 3) := by decide +kernel
theorem d_JI_numberOfTrailingZeros_29 : decode prog_10_method_48_code 29 = .ok (.iload_n 0, 1) := by decide +kernel
theorem d_JI_numberOfTrailingZeros_30 : decode prog_10_method_48_code 30 = .ok (.bipush 16, 2) := by decide +kernel
theorem d_JI_numberOfTrailingZeros_32 : decode prog_10_method_48_code 32 = .ok (.iushr, 1) := by decide +kernel
theorem d_JI_numberOfTrailingZeros_33 : decode prog_10_method_48_code 33 = .ok (.istore_n 0, 1) := by decide +kernel
theorem d_JI_numberOfTrailingZeros_34 : decode prog_10_method_48_code 34 = .ok (.iload_n 0, 1) := by decide +kernel
theorem d_JI_numberOfTrailingZeros_35 : decode prog_10_method_48_code 35 = .ok (.sipush 256, 3) := by decide +kernel
theorem d_JI_numberOfTrailingZeros_38 : decode prog_10_method_48_code 38 = .ok (.if_icmp .le 11, 3) := by decide +kernel
theorem d_JI_numberOfTrailingZeros_41 : decode prog_10_method_48_code 41 = .ok (.iinc 1 8, 3) := by decide +kernel
theorem d_JI_numberOfTrailingZeros_44 : decode prog_10_method_48_code 44 = .ok (.iload_n 0, 1) := by decide +kernel
theorem d_JI_numberOfTrailingZeros_45 : decode prog_10_method_48_code 45 = .ok (.bipush 8, 2) := by decide +kernel
theorem d_JI_numberOfTrailingZeros_47 : decode prog_10_method_48_code 47 = .ok (.iushr, 1) := by decide +kernel
theorem d_JI_numberOfTrailingZeros_48 : decode prog_10_method_48_code 48 = .ok (.istore_n 0, 1) := by decide +kernel
theorem d_JI_numberOfTrailingZeros_49 : decode prog_10_method_48_code 49 = .ok (.iload_n 0, 1) := by decide +kernel
theorem d_JI_numberOfTrailingZeros_50 : decode prog_10_method_48_code 50 = .ok (.bipush 16, 2) := by decide +kernel
theorem d_JI_numberOfTrailingZeros_52 : decode prog_10_method_48_code 52 = .ok (.if_icmp .le 10, 3) := by decide +kernel
theorem d_JI_numberOfTrailingZeros_55 : decode prog_10_method_48_code 55 = .ok (.iinc 1 4, 3) := by decide +kernel
theorem d_JI_numberOfTrailingZeros_58 : decode prog_10_method_48_code 58 = .ok (.iload_n 0, 1) := by decide +kernel
theorem d_JI_numberOfTrailingZeros_59 : decode prog_10_method_48_code 59 = .ok (.iconst 4, 1) := by decide +kernel
theorem d_JI_numberOfTrailingZeros_60 : decode prog_10_method_48_code 60 = .ok (.iushr, 1) := by decide +kernel
theorem d_JI_numberOfTrailingZeros_61 : decode prog_10_method_48_code 61 = .ok (.istore_n 0, 1) := by decide +kernel
theorem d_JI_numberOfTrailingZeros_62 : decode prog_10_method_48_code 62 = .ok (.iload_n 0, 1) := by decide +kernel
theorem d_JI_numberOfTrailingZeros_63 : decode prog_10_method_48_code 63 = .ok (.iconst 4, 1) := by decide +kernel
theorem d_JI_numberOfTrailingZeros_64 : decode prog_10_method_48_code 64 = .ok (.if_icmp .le 10, 3) := by decide +kernel
theorem d_JI_numberOfTrailingZeros_67 : decode prog_10_method_48_code 67 = .ok (.iinc 1 2, 3) := by decide +kernel
theorem d_JI_numberOfTrailingZeros_70 : decode prog_10_method_48_code 70 = .ok (.iload_n 0, 1) := by decide +kernel
theorem d_JI_numberOfTrailingZeros_71 : decode prog_10_method_48_code 71 = .ok (.iconst 2, 1) := by decide +kernel
theorem d_JI_numberOfTrailingZeros_72 : decode prog_10_method_48_code 72 = .ok (.iushr, 1) := by decide +kernel
theorem d_JI_numberOfTrailingZeros_73 : decode prog_10_method_48_code 73 = .ok (.istore_n 0, 1) := by decide +kernel
theorem d_JI_numberOfTrailingZeros_74 : decode prog_10_method_48_code 74 = .ok (.iload_n 1, 1) := by decide +kernel
theorem d_JI_numberOfTrailingZeros_75 : decode prog_10_method_48_code 75 = .ok (.iload_n 0, 1) := by decide +kernel
theorem d_JI_numberOfTrailingZeros_76 : decode prog_10_method_48_code 76 = .ok (.iconst 1, 1) := by decide +kernel
theorem d_JI_numberOfTrailingZeros_77 : decode prog_10_method_48_code 77 = .ok (.iushr, 1) := by decide +kernel
theorem d_JI_numberOfTrailingZeros_78 : decode prog_10_method_48_code 78 = .ok (.iadd, 1) := by decide +kernel
theorem d_JI_numberOfTrailingZeros_79 : decode prog_10_method_48_code 79 = .ok (.ireturn, 1) := by decide +kernel
theorem d_JM_max_0 : decode prog_11_method_65_code 0 = .ok (.iload_n 0, 1) := by decide +kernel
theorem d_JM_max_1 : decode prog_11_method_65_code 1 = .ok (.iload_n 1, 1) := by decide +kernel
theorem d_JM_max_2 : decode prog_11_method_65_code 2 = .ok (.if_icmp .lt 7, 3) := by decide +kernel
theorem d_JM_max_5 : decode prog_11_method_65_code 5 = .ok (.iload_n 0, 1) := by decide +kernel
theorem d_JM_max_6 : decode prog_11_method_65_code 6 = .ok (.goto 4, 3) := by decide +kernel
theorem d_JM_max_9 : decode prog_11_method_65_code 9 = .ok (.iload_n 1, 1) := by decide +kernel
theorem d_JM_max_10 : decode prog_11_method_65_code 10 = .ok (.ireturn, 1) := by decide +kernel
theorem d_JT_init_V3_0 : decode prog_14_method_1_code 0 = .ok (.aload_n 0, 1) := by decide +kernel
theorem d_JT_init_V3_1 : decode prog_14_method_1_code 1 = .ok (.invokespecial 1, 3) := by decide +kernel
theorem d_JT_init_V3_4 : decode prog_14_method_1_code 4 = .ok (.aload_n 0, 1) := by decide +kernel
theorem d_JT_init_V3_5 : decode prog_14_method_1_code 5 = .ok (.aload_n 0, 1) := by decide +kernel
theorem d_JT_init_V3_6 : decode prog_14_method_1_code 6 = .ok (.putfield 7, 3) := by decide +kernel
theorem d_JT_init_V3_9 : decode prog_14_method_1_code 9 = .ok (.aload_n 0, 1) := by decide +kernel
theorem d_JT_init_V3_10 : decode prog_14_method_1_code 10 = .ok (.getstatic 13, 3) := by decide +kernel
theorem d_JT_init_V3_13 : decode prog_14_method_1_code 13 = .ok (.putfield 17, 3) := by decide +kernel
theorem d_JT_init_V3_16 : decode prog_14_method_1_code 16 = .ok (.aload_n 0, 1) := by decide +kernel
theorem d_JT_init_V3_17 : decode prog_14_method_1_code 17 = .ok (.getstatic 20, 3) := by decide +kernel
theorem d_JT_init_V3_20 : decode prog_14_method_1_code 20 = .ok (.putfield 24, 3) := by decide +kernel
theorem d_JT_init_V3_23 : decode prog_14_method_1_code 23 = .ok (.aload_n 0, 1) := by decide +kernel
theorem d_JT_init_V3_24 : decode prog_14_method_1_code 24 = .ok (.invokevirtual 27, 3) := by decide +kernel
theorem d_JT_init_V3_27 : decode prog_14_method_1_code 27 = .ok (.pop, 1) := by decide +kernel
theorem d_JT_init_V3_28 : decode prog_14_method_1_code 28 = .ok (.return_, 1) := by decide +kernel
theorem d_JN_init_0 : decode prog_16_method_4_code 0 = .ok (.aload_n 0, 1) := by decide +kernel
theorem d_JN_init_1 : decode prog_16_method_4_code 1 = .ok (.aload_n 1, 1) := by decide +kernel
theorem d_JN_init_2 : decode prog_16_method_4_code 2 = .ok (.invokespecial 13, 3) := by decide +kernel
theorem d_JN_init_5 : decode prog_16_method_4_code 5 = .ok (.return_, 1) := by decide +kernel
theorem d_JR_init_0 : decode prog_12_method_2_code 0 = .ok (.aload_n 0, 1) := by decide +kernel
theorem d_JR_init_1 : decode prog_12_method_2_code 1 = .ok (.aload_n 1, 1) := by decide +kernel
theorem d_JR_init_2 : decode prog_12_method_2_code 2 = .ok (.invokespecial 7, 3) := by decide +kernel
theorem d_JR_init_5 : decode prog_12_method_2_code 5 = .ok (.return_, 1) := by decide +kernel
theorem d_JE_init_0 : decode prog_9_method_2_code 0 = .ok (.aload_n 0, 1) := by decide +kernel
theorem d_JE_init_1 : decode prog_9_method_2_code 1 = .ok (.aload_n 1, 1) := by decide +kernel
theorem d_JE_init_2 : decode prog_9_method_2_code 2 = .ok (.invokespecial 7, 3) := by decide +kernel
theorem d_JE_init_5 : decode prog_9_method_2_code 5 = .ok (.return_, 1) := by decide +kernel
theorem d_JT_init_L21_0 : decode prog_14_method_2_code 0 = .ok (.aload_n 0, 1) := by decide +kernel
theorem d_JT_init_L21_1 : decode prog_14_method_2_code 1 = .ok (.invokespecial 1, 3) := by decide +kernel
theorem d_JT_init_L21_4 : decode prog_14_method_2_code 4 = .ok (.aload_n 0, 1) := by decide +kernel
theorem d_JT_init_L21_5 : decode prog_14_method_2_code 5 = .ok (.aload_n 0, 1) := by decide +kernel
theorem d_JT_init_L21_6 : decode prog_14_method_2_code 6 = .ok (.putfield 7, 3) := by decide +kernel
theorem d_JT_init_L21_9 : decode prog_14_method_2_code 9 = .ok (.aload_n 0, 1) := by decide +kernel
theorem d_JT_init_L21_10 : decode prog_14_method_2_code 10 = .ok (.getstatic 13, 3) := by decide +kernel
theorem d_JT_init_L21_13 : decode prog_14_method_2_code 13 = .ok (.putfield 17, 3) := by decide +kernel
theorem d_JT_init_L21_16 : decode prog_14_method_2_code 16 = .ok (.aload_n 0, 1) := by decide +kernel
theorem d_JT_init_L21_17 : decode prog_14_method_2_code 17 = .ok (.getstatic 20, 3) := by decide +kernel
theorem d_JT_init_L21_20 : decode prog_14_method_2_code 20 = .ok (.putfield 24, 3) := by decide +kernel
theorem d_JT_init_L21_23 : decode prog_14_method_2_code 23 = .ok (.aload_n 0, 1) := by decide +kernel
theorem d_JT_init_L21_24 : decode prog_14_method_2_code 24 = .ok (.invokevirtual 27, 3) := by decide +kernel
theorem d_JT_init_L21_27 : decode prog_14_method_2_code 27 = .ok (.pop, 1) := by decide +kernel
theorem d_JT_init_L21_28 : decode prog_14_method_2_code 28 = .ok (.aload_n 0, 1) := by decide +kernel
theorem d_JT_init_L21_29 : decode prog_14_method_2_code 29 = .ok (.aload_n 1, 1) := by decide +kernel
theorem d_JT_init_L21_30 : decode prog_14_method_2_code 30 = .ok (.putfield 31, 3) := by decide +kernel
theorem d_JT_init_L21_33 : decode prog_14_method_2_code 33 = .ok (.return_, 1) := by decide +kernel
theorem d_JX_init_0 : decode prog_8_method_2_code 0 = .ok (.aload_n 0, 1) := by decide +kernel
theorem d_JX_init_1 : decode prog_8_method_2_code 1 = .ok (.aload_n 1, 1) := by decide +kernel
theorem d_JX_init_2 : decode prog_8_method_2_code 2 = .ok (.invokespecial 7, 3) := by decide +kernel
theorem d_JX_init_5 : decode prog_8_method_2_code 5 = .ok (.return_, 1) := by decide +kernel
theorem d_L_value_0 : decode method_3_code 0 = .ok (.aload_n 3, 1) := by decide +kernel
theorem d_L_value_1 : decode method_3_code 1 = .ok (.iconst 0, 1) := by decide +kernel
theorem d_L_value_2 : decode method_3_code 2 = .ok (.aload_n 0, 1) := by decide +kernel
theorem d_L_value_3 : decode method_3_code 3 = .ok (.iload_n 1, 1) := by decide +kernel
theorem d_L_value_4 : decode method_3_code 4 = .ok (.iload_n 2, 1) := by decide +kernel
theorem d_L_value_5 : decode method_3_code 5 = .ok (.invokevirtual 7, 3) := by decide +kernel
theorem d_L_value_8 : decode method_3_code 8 = .ok (.lastore, 1) := by decide +kernel
theorem d_L_value_9 : decode method_3_code 9 = .ok (.goto 11, 3) := by decide +kernel
theorem d_L_value_12 : decode method_3_code 12 = .ok (.astore 4, 2) := by decide +kernel
theorem d_L_value_14 : decode method_3_code 14 = .ok (.iconst 1, 1) := by decide +kernel
theorem d_L_value_15 : decode method_3_code 15 = .ok (.ireturn, 1) := by decide +kernel
theorem d_L_value_16 : decode method_3_code 16 = .ok (.astore 4, 2) := by decide +kernel
theorem d_L_value_18 : decode method_3_code 18 = .ok (.iconst 2, 1) := by decide +kernel
theorem d_L_value_19 : decode method_3_code 19 = .ok (.ireturn, 1) := by decide +kernel
theorem d_L_value_20 : decode method_3_code 20 = .ok (.iconst 0, 1) := by decide +kernel
theorem d_L_value_21 : decode method_3_code 21 = .ok (.ireturn, 1) := by decide +kernel
theorem d_L_slope_0 : decode method_4_code 0 = .ok (.aload 5, 2) := by decide +kernel
theorem d_L_slope_2 : decode method_4_code 2 = .ok (.iconst 0, 1) := by decide +kernel
theorem d_L_slope_3 : decode method_4_code 3 = .ok (.aload_n 0, 1) := by decide +kernel
theorem d_L_slope_4 : decode method_4_code 4 = .ok (.iload_n 1, 1) := by decide +kernel
theorem d_L_slope_5 : decode method_4_code 5 = .ok (.iload_n 2, 1) := by decide +kernel
theorem d_L_slope_6 : decode method_4_code 6 = .ok (.iload_n 3, 1) := by decide +kernel
theorem d_L_slope_7 : decode method_4_code 7 = .ok (.iload 4, 2) := by decide +kernel
theorem d_L_slope_9 : decode method_4_code 9 = .ok (.invokevirtual 17, 3) := by decide +kernel
theorem d_L_slope_12 : decode method_4_code 12 = .ok (.lastore, 1) := by decide +kernel
theorem d_L_slope_13 : decode method_4_code 13 = .ok (.goto 11, 3) := by decide +kernel
theorem d_L_slope_16 : decode method_4_code 16 = .ok (.astore 6, 2) := by decide +kernel
theorem d_L_slope_18 : decode method_4_code 18 = .ok (.iconst 1, 1) := by decide +kernel
theorem d_L_slope_19 : decode method_4_code 19 = .ok (.ireturn, 1) := by decide +kernel
theorem d_L_slope_20 : decode method_4_code 20 = .ok (.astore 6, 2) := by decide +kernel
theorem d_L_slope_22 : decode method_4_code 22 = .ok (.iconst 2, 1) := by decide +kernel
theorem d_L_slope_23 : decode method_4_code 23 = .ok (.ireturn, 1) := by decide +kernel
theorem d_L_slope_24 : decode method_4_code 24 = .ok (.iconst 0, 1) := by decide +kernel
theorem d_L_slope_25 : decode method_4_code 25 = .ok (.ireturn, 1) := by decide +kernel
theorem d_L_law_0 : decode code 0 = .ok (.new 8, 3) := by decide +kernel
theorem d_L_law_3 : decode code 3 = .ok (.dup, 1) := by decide +kernel
theorem d_L_law_4 : decode code 4 = .ok (.invokespecial 21, 3) := by decide +kernel
theorem d_L_law_7 : decode code 7 = .ok (.astore_n 1, 1) := by decide +kernel
theorem d_L_law_8 : decode code 8 = .ok (.new 22, 3) := by decide +kernel
theorem d_L_law_11 : decode code 11 = .ok (.dup, 1) := by decide +kernel
theorem d_L_law_12 : decode code 12 = .ok (.invokespecial 24, 3) := by decide +kernel
theorem d_L_law_15 : decode code 15 = .ok (.astore_n 2, 1) := by decide +kernel
theorem d_L_law_16 : decode code 16 = .ok (.iconst 1, 1) := by decide +kernel
theorem d_L_law_17 : decode code 17 = .ok (.newarray .long, 2) := by decide +kernel
theorem d_L_law_19 : decode code 19 = .ok (.astore_n 3, 1) := by decide +kernel
theorem d_L_law_20 : decode code 20 = .ok (.iconst 0, 1) := by decide +kernel
theorem d_L_law_21 : decode code 21 = .ok (.istore 4, 2) := by decide +kernel
theorem d_L_law_23 : decode code 23 = .ok (.iload 4, 2) := by decide +kernel
theorem d_L_law_25 : decode code 25 = .ok (.aload_n 0, 1) := by decide +kernel
theorem d_L_law_26 : decode code 26 = .ok (.arraylength, 1) := by decide +kernel
theorem d_L_law_27 : decode code 27 = .ok (.iconst 5, 1) := by decide +kernel
theorem d_L_law_28 : decode code 28 = .ok (.isub, 1) := by decide +kernel
theorem d_L_law_29 : decode code 29 = .ok (.if_icmp .gt 565, 3) := by decide +kernel
theorem d_L_law_32 : decode code 32 = .ok (.aload_n 0, 1) := by decide +kernel
theorem d_L_law_33 : decode code 33 = .ok (.iload 4, 2) := by decide +kernel
theorem d_L_law_35 : decode code 35 = .ok (.iaload, 1) := by decide +kernel
theorem d_L_law_36 : decode code 36 = .ok (.bipush 15, 2) := by decide +kernel
theorem d_L_law_38 : decode code 38 = .ok (.iand, 1) := by decide +kernel
theorem d_L_law_39 : decode code 39 = .ok (.tableswitch 549 0 13 #[69, 94, 143, 204, 215, 228, 295, 386, 399, 412, 449, 474, 499, 524], 69) := by decide +kernel
theorem d_L_law_108 : decode code 108 = .ok (.aload_n 1, 1) := by decide +kernel
theorem d_L_law_109 : decode code 109 = .ok (.aload_n 0, 1) := by decide +kernel
theorem d_L_law_110 : decode code 110 = .ok (.iload 4, 2) := by decide +kernel
theorem d_L_law_112 : decode code 112 = .ok (.iconst 1, 1) := by decide +kernel
theorem d_L_law_113 : decode code 113 = .ok (.iadd, 1) := by decide +kernel
theorem d_L_law_114 : decode code 114 = .ok (.iaload, 1) := by decide +kernel
theorem d_L_law_115 : decode code 115 = .ok (.invokevirtual 25, 3) := by decide +kernel
theorem d_L_law_118 : decode code 118 = .ok (.aload_n 2, 1) := by decide +kernel
theorem d_L_law_119 : decode code 119 = .ok (.aload_n 0, 1) := by decide +kernel
theorem d_L_law_120 : decode code 120 = .ok (.iload 4, 2) := by decide +kernel
theorem d_L_law_122 : decode code 122 = .ok (.iconst 1, 1) := by decide +kernel
theorem d_L_law_123 : decode code 123 = .ok (.iadd, 1) := by decide +kernel
theorem d_L_law_124 : decode code 124 = .ok (.iaload, 1) := by decide +kernel
theorem d_L_law_125 : decode code 125 = .ok (.invokevirtual 29, 3) := by decide +kernel
theorem d_L_law_128 : decode code 128 = .ok (.if_icmp .eq 460, 3) := by decide +kernel
theorem d_L_law_131 : decode code 131 = .ok (.iconst 0, 1) := by decide +kernel
theorem d_L_law_132 : decode code 132 = .ok (.ireturn, 1) := by decide +kernel
theorem d_L_law_133 : decode code 133 = .ok (.aload_n 1, 1) := by decide +kernel
theorem d_L_law_134 : decode code 134 = .ok (.aload_n 0, 1) := by decide +kernel
theorem d_L_law_135 : decode code 135 = .ok (.iload 4, 2) := by decide +kernel
theorem d_L_law_137 : decode code 137 = .ok (.iconst 1, 1) := by decide +kernel
theorem d_L_law_138 : decode code 138 = .ok (.iadd, 1) := by decide +kernel
theorem d_L_law_139 : decode code 139 = .ok (.iaload, 1) := by decide +kernel
theorem d_L_law_140 : decode code 140 = .ok (.aload_n 0, 1) := by decide +kernel
theorem d_L_law_141 : decode code 141 = .ok (.iload 4, 2) := by decide +kernel
theorem d_L_law_143 : decode code 143 = .ok (.iconst 2, 1) := by decide +kernel
theorem d_L_law_144 : decode code 144 = .ok (.iadd, 1) := by decide +kernel
theorem d_L_law_145 : decode code 145 = .ok (.iaload, 1) := by decide +kernel
theorem d_L_law_146 : decode code 146 = .ok (.aload_n 0, 1) := by decide +kernel
theorem d_L_law_147 : decode code 147 = .ok (.iload 4, 2) := by decide +kernel
theorem d_L_law_149 : decode code 149 = .ok (.iconst 3, 1) := by decide +kernel
theorem d_L_law_150 : decode code 150 = .ok (.iadd, 1) := by decide +kernel
theorem d_L_law_151 : decode code 151 = .ok (.iaload, 1) := by decide +kernel
theorem d_L_law_152 : decode code 152 = .ok (.invokevirtual 30, 3) := by decide +kernel
theorem d_L_law_155 : decode code 155 = .ok (.aload_n 2, 1) := by decide +kernel
theorem d_L_law_156 : decode code 156 = .ok (.aload_n 0, 1) := by decide +kernel
theorem d_L_law_157 : decode code 157 = .ok (.iload 4, 2) := by decide +kernel
theorem d_L_law_159 : decode code 159 = .ok (.iconst 1, 1) := by decide +kernel
theorem d_L_law_160 : decode code 160 = .ok (.iadd, 1) := by decide +kernel
theorem d_L_law_161 : decode code 161 = .ok (.iaload, 1) := by decide +kernel
theorem d_L_law_162 : decode code 162 = .ok (.aload_n 0, 1) := by decide +kernel
theorem d_L_law_163 : decode code 163 = .ok (.iload 4, 2) := by decide +kernel
theorem d_L_law_165 : decode code 165 = .ok (.iconst 2, 1) := by decide +kernel
theorem d_L_law_166 : decode code 166 = .ok (.iadd, 1) := by decide +kernel
theorem d_L_law_167 : decode code 167 = .ok (.iaload, 1) := by decide +kernel
theorem d_L_law_168 : decode code 168 = .ok (.aload_n 0, 1) := by decide +kernel
theorem d_L_law_169 : decode code 169 = .ok (.iload 4, 2) := by decide +kernel
theorem d_L_law_171 : decode code 171 = .ok (.iconst 3, 1) := by decide +kernel
theorem d_L_law_172 : decode code 172 = .ok (.iadd, 1) := by decide +kernel
theorem d_L_law_173 : decode code 173 = .ok (.iaload, 1) := by decide +kernel
theorem d_L_law_174 : decode code 174 = .ok (.invokevirtual 34, 3) := by decide +kernel
theorem d_L_law_177 : decode code 177 = .ok (.if_icmp .eq 411, 3) := by decide +kernel
theorem d_L_law_180 : decode code 180 = .ok (.iconst 0, 1) := by decide +kernel
theorem d_L_law_181 : decode code 181 = .ok (.ireturn, 1) := by decide +kernel
theorem d_L_law_182 : decode code 182 = .ok (.aload_n 1, 1) := by decide +kernel
theorem d_L_law_183 : decode code 183 = .ok (.aload_n 0, 1) := by decide +kernel
theorem d_L_law_184 : decode code 184 = .ok (.iload 4, 2) := by decide +kernel
theorem d_L_law_186 : decode code 186 = .ok (.iconst 1, 1) := by decide +kernel
theorem d_L_law_187 : decode code 187 = .ok (.iadd, 1) := by decide +kernel
theorem d_L_law_188 : decode code 188 = .ok (.iaload, 1) := by decide +kernel
theorem d_L_law_189 : decode code 189 = .ok (.aload_n 0, 1) := by decide +kernel
theorem d_L_law_190 : decode code 190 = .ok (.iload 4, 2) := by decide +kernel
theorem d_L_law_192 : decode code 192 = .ok (.iconst 2, 1) := by decide +kernel
theorem d_L_law_193 : decode code 193 = .ok (.iadd, 1) := by decide +kernel
theorem d_L_law_194 : decode code 194 = .ok (.iaload, 1) := by decide +kernel
theorem d_L_law_195 : decode code 195 = .ok (.aload_n 0, 1) := by decide +kernel
theorem d_L_law_196 : decode code 196 = .ok (.iload 4, 2) := by decide +kernel
theorem d_L_law_198 : decode code 198 = .ok (.iconst 3, 1) := by decide +kernel
theorem d_L_law_199 : decode code 199 = .ok (.iadd, 1) := by decide +kernel
theorem d_L_law_200 : decode code 200 = .ok (.iaload, 1) := by decide +kernel
theorem d_L_law_201 : decode code 201 = .ok (.aload_n 0, 1) := by decide +kernel
theorem d_L_law_202 : decode code 202 = .ok (.iload 4, 2) := by decide +kernel
theorem d_L_law_204 : decode code 204 = .ok (.iconst 4, 1) := by decide +kernel
theorem d_L_law_205 : decode code 205 = .ok (.iadd, 1) := by decide +kernel
theorem d_L_law_206 : decode code 206 = .ok (.iaload, 1) := by decide +kernel
theorem d_L_law_207 : decode code 207 = .ok (.invokevirtual 35, 3) := by decide +kernel
theorem d_L_law_210 : decode code 210 = .ok (.aload_n 2, 1) := by decide +kernel
theorem d_L_law_211 : decode code 211 = .ok (.aload_n 0, 1) := by decide +kernel
theorem d_L_law_212 : decode code 212 = .ok (.iload 4, 2) := by decide +kernel
theorem d_L_law_214 : decode code 214 = .ok (.iconst 1, 1) := by decide +kernel
theorem d_L_law_215 : decode code 215 = .ok (.iadd, 1) := by decide +kernel
theorem d_L_law_216 : decode code 216 = .ok (.iaload, 1) := by decide +kernel
theorem d_L_law_217 : decode code 217 = .ok (.aload_n 0, 1) := by decide +kernel
theorem d_L_law_218 : decode code 218 = .ok (.iload 4, 2) := by decide +kernel
theorem d_L_law_220 : decode code 220 = .ok (.iconst 2, 1) := by decide +kernel
theorem d_L_law_221 : decode code 221 = .ok (.iadd, 1) := by decide +kernel
theorem d_L_law_222 : decode code 222 = .ok (.iaload, 1) := by decide +kernel
theorem d_L_law_223 : decode code 223 = .ok (.aload_n 0, 1) := by decide +kernel
theorem d_L_law_224 : decode code 224 = .ok (.iload 4, 2) := by decide +kernel
theorem d_L_law_226 : decode code 226 = .ok (.iconst 3, 1) := by decide +kernel
theorem d_L_law_227 : decode code 227 = .ok (.iadd, 1) := by decide +kernel
theorem d_L_law_228 : decode code 228 = .ok (.iaload, 1) := by decide +kernel
theorem d_L_law_229 : decode code 229 = .ok (.aload_n 0, 1) := by decide +kernel
theorem d_L_law_230 : decode code 230 = .ok (.iload 4, 2) := by decide +kernel
theorem d_L_law_232 : decode code 232 = .ok (.iconst 4, 1) := by decide +kernel
theorem d_L_law_233 : decode code 233 = .ok (.iadd, 1) := by decide +kernel
theorem d_L_law_234 : decode code 234 = .ok (.iaload, 1) := by decide +kernel
theorem d_L_law_235 : decode code 235 = .ok (.invokevirtual 39, 3) := by decide +kernel
theorem d_L_law_238 : decode code 238 = .ok (.if_icmp .eq 350, 3) := by decide +kernel
theorem d_L_law_241 : decode code 241 = .ok (.iconst 0, 1) := by decide +kernel
theorem d_L_law_242 : decode code 242 = .ok (.ireturn, 1) := by decide +kernel
theorem d_L_law_243 : decode code 243 = .ok (.aload_n 1, 1) := by decide +kernel
theorem d_L_law_244 : decode code 244 = .ok (.invokevirtual 40, 3) := by decide +kernel
theorem d_L_law_247 : decode code 247 = .ok (.aload_n 2, 1) := by decide +kernel
theorem d_L_law_248 : decode code 248 = .ok (.invokevirtual 43, 3) := by decide +kernel
theorem d_L_law_251 : decode code 251 = .ok (.goto 337, 3) := by decide +kernel
theorem d_L_law_254 : decode code 254 = .ok (.aload_n 1, 1) := by decide +kernel
theorem d_L_law_255 : decode code 255 = .ok (.invokevirtual 44, 3) := by decide +kernel
theorem d_L_law_258 : decode code 258 = .ok (.aload_n 2, 1) := by decide +kernel
theorem d_L_law_259 : decode code 259 = .ok (.invokevirtual 48, 3) := by decide +kernel
theorem d_L_law_262 : decode code 262 = .ok (.if_icmp .eq 326, 3) := by decide +kernel
theorem d_L_law_265 : decode code 265 = .ok (.iconst 0, 1) := by decide +kernel
theorem d_L_law_266 : decode code 266 = .ok (.ireturn, 1) := by decide +kernel
theorem d_L_law_267 : decode code 267 = .ok (.aload_n 1, 1) := by decide +kernel
theorem d_L_law_268 : decode code 268 = .ok (.aload_n 0, 1) := by decide +kernel
theorem d_L_law_269 : decode code 269 = .ok (.iload 4, 2) := by decide +kernel
theorem d_L_law_271 : decode code 271 = .ok (.iconst 1, 1) := by decide +kernel
theorem d_L_law_272 : decode code 272 = .ok (.iadd, 1) := by decide +kernel
theorem d_L_law_273 : decode code 273 = .ok (.iaload, 1) := by decide +kernel
theorem d_L_law_274 : decode code 274 = .ok (.aload_n 0, 1) := by decide +kernel
theorem d_L_law_275 : decode code 275 = .ok (.iload 4, 2) := by decide +kernel
theorem d_L_law_277 : decode code 277 = .ok (.iconst 2, 1) := by decide +kernel
theorem d_L_law_278 : decode code 278 = .ok (.iadd, 1) := by decide +kernel
theorem d_L_law_279 : decode code 279 = .ok (.iaload, 1) := by decide +kernel
theorem d_L_law_280 : decode code 280 = .ok (.aload_n 3, 1) := by decide +kernel
theorem d_L_law_281 : decode code 281 = .ok (.invokestatic 49, 3) := by decide +kernel
theorem d_L_law_284 : decode code 284 = .ok (.istore 5, 2) := by decide +kernel
theorem d_L_law_286 : decode code 286 = .ok (.aload_n 2, 1) := by decide +kernel
theorem d_L_law_287 : decode code 287 = .ok (.aload_n 0, 1) := by decide +kernel
theorem d_L_law_288 : decode code 288 = .ok (.iload 4, 2) := by decide +kernel
theorem d_L_law_290 : decode code 290 = .ok (.iconst 1, 1) := by decide +kernel
theorem d_L_law_291 : decode code 291 = .ok (.iadd, 1) := by decide +kernel
theorem d_L_law_292 : decode code 292 = .ok (.iaload, 1) := by decide +kernel
theorem d_L_law_293 : decode code 293 = .ok (.aload_n 0, 1) := by decide +kernel
theorem d_L_law_294 : decode code 294 = .ok (.iload 4, 2) := by decide +kernel
theorem d_L_law_296 : decode code 296 = .ok (.iconst 2, 1) := by decide +kernel
theorem d_L_law_297 : decode code 297 = .ok (.iadd, 1) := by decide +kernel
theorem d_L_law_298 : decode code 298 = .ok (.iaload, 1) := by decide +kernel
theorem d_L_law_299 : decode code 299 = .ok (.invokevirtual 54, 3) := by decide +kernel
theorem d_L_law_302 : decode code 302 = .ok (.lstore 6, 2) := by decide +kernel
theorem d_L_law_304 : decode code 304 = .ok (.aload_n 2, 1) := by decide +kernel
theorem d_L_law_305 : decode code 305 = .ok (.invokevirtual 55, 3) := by decide +kernel
theorem d_L_law_308 : decode code 308 = .ok (.iload 5, 2) := by decide +kernel
theorem d_L_law_310 : decode code 310 = .ok (.if_icmp .eq 5, 3) := by decide +kernel
theorem d_L_law_313 : decode code 313 = .ok (.iconst 0, 1) := by decide +kernel
theorem d_L_law_314 : decode code 314 = .ok (.ireturn, 1) := by decide +kernel
theorem d_L_law_315 : decode code 315 = .ok (.iload 5, 2) := by decide +kernel
theorem d_L_law_317 : decode code 317 = .ok (.ifCond .ne 14, 3) := by decide +kernel
theorem d_L_law_320 : decode code 320 = .ok (.aload_n 3, 1) := by decide +kernel
theorem d_L_law_321 : decode code 321 = .ok (.iconst 0, 1) := by decide +kernel
theorem d_L_law_322 : decode code 322 = .ok (.laload, 1) := by decide +kernel
theorem d_L_law_323 : decode code 323 = .ok (.lload 6, 2) := by decide +kernel
theorem d_L_law_325 : decode code 325 = .ok (.lcmp, 1) := by decide +kernel
theorem d_L_law_326 : decode code 326 = .ok (.ifCond .eq 5, 3) := by decide +kernel
theorem d_L_law_329 : decode code 329 = .ok (.iconst 0, 1) := by decide +kernel
theorem d_L_law_330 : decode code 330 = .ok (.ireturn, 1) := by decide +kernel
theorem d_L_law_331 : decode code 331 = .ok (.goto 257, 3) := by decide +kernel
theorem d_L_law_334 : decode code 334 = .ok (.aload_n 1, 1) := by decide +kernel
theorem d_L_law_335 : decode code 335 = .ok (.aload_n 0, 1) := by decide +kernel
theorem d_L_law_336 : decode code 336 = .ok (.iload 4, 2) := by decide +kernel
theorem d_L_law_338 : decode code 338 = .ok (.iconst 1, 1) := by decide +kernel
theorem d_L_law_339 : decode code 339 = .ok (.iadd, 1) := by decide +kernel
theorem d_L_law_340 : decode code 340 = .ok (.iaload, 1) := by decide +kernel
theorem d_L_law_341 : decode code 341 = .ok (.aload_n 0, 1) := by decide +kernel
theorem d_L_law_342 : decode code 342 = .ok (.iload 4, 2) := by decide +kernel
theorem d_L_law_344 : decode code 344 = .ok (.iconst 2, 1) := by decide +kernel
theorem d_L_law_345 : decode code 345 = .ok (.iadd, 1) := by decide +kernel
theorem d_L_law_346 : decode code 346 = .ok (.iaload, 1) := by decide +kernel
theorem d_L_law_347 : decode code 347 = .ok (.aload_n 0, 1) := by decide +kernel
theorem d_L_law_348 : decode code 348 = .ok (.iload 4, 2) := by decide +kernel
theorem d_L_law_350 : decode code 350 = .ok (.iconst 3, 1) := by decide +kernel
theorem d_L_law_351 : decode code 351 = .ok (.iadd, 1) := by decide +kernel
theorem d_L_law_352 : decode code 352 = .ok (.iaload, 1) := by decide +kernel
theorem d_L_law_353 : decode code 353 = .ok (.aload_n 0, 1) := by decide +kernel
theorem d_L_law_354 : decode code 354 = .ok (.iload 4, 2) := by decide +kernel
theorem d_L_law_356 : decode code 356 = .ok (.iconst 4, 1) := by decide +kernel
theorem d_L_law_357 : decode code 357 = .ok (.iadd, 1) := by decide +kernel
theorem d_L_law_358 : decode code 358 = .ok (.iaload, 1) := by decide +kernel
theorem d_L_law_359 : decode code 359 = .ok (.aload_n 3, 1) := by decide +kernel
theorem d_L_law_360 : decode code 360 = .ok (.invokestatic 58, 3) := by decide +kernel
theorem d_L_law_363 : decode code 363 = .ok (.istore 5, 2) := by decide +kernel
theorem d_L_law_365 : decode code 365 = .ok (.aload_n 2, 1) := by decide +kernel
theorem d_L_law_366 : decode code 366 = .ok (.aload_n 0, 1) := by decide +kernel
theorem d_L_law_367 : decode code 367 = .ok (.iload 4, 2) := by decide +kernel
theorem d_L_law_369 : decode code 369 = .ok (.iconst 1, 1) := by decide +kernel
theorem d_L_law_370 : decode code 370 = .ok (.iadd, 1) := by decide +kernel
theorem d_L_law_371 : decode code 371 = .ok (.iaload, 1) := by decide +kernel
theorem d_L_law_372 : decode code 372 = .ok (.aload_n 0, 1) := by decide +kernel
theorem d_L_law_373 : decode code 373 = .ok (.iload 4, 2) := by decide +kernel
theorem d_L_law_375 : decode code 375 = .ok (.iconst 2, 1) := by decide +kernel
theorem d_L_law_376 : decode code 376 = .ok (.iadd, 1) := by decide +kernel
theorem d_L_law_377 : decode code 377 = .ok (.iaload, 1) := by decide +kernel
theorem d_L_law_378 : decode code 378 = .ok (.aload_n 0, 1) := by decide +kernel
theorem d_L_law_379 : decode code 379 = .ok (.iload 4, 2) := by decide +kernel
theorem d_L_law_381 : decode code 381 = .ok (.iconst 3, 1) := by decide +kernel
theorem d_L_law_382 : decode code 382 = .ok (.iadd, 1) := by decide +kernel
theorem d_L_law_383 : decode code 383 = .ok (.iaload, 1) := by decide +kernel
theorem d_L_law_384 : decode code 384 = .ok (.aload_n 0, 1) := by decide +kernel
theorem d_L_law_385 : decode code 385 = .ok (.iload 4, 2) := by decide +kernel
theorem d_L_law_387 : decode code 387 = .ok (.iconst 4, 1) := by decide +kernel
theorem d_L_law_388 : decode code 388 = .ok (.iadd, 1) := by decide +kernel
theorem d_L_law_389 : decode code 389 = .ok (.iaload, 1) := by decide +kernel
theorem d_L_law_390 : decode code 390 = .ok (.invokevirtual 61, 3) := by decide +kernel
theorem d_L_law_393 : decode code 393 = .ok (.lstore 6, 2) := by decide +kernel
theorem d_L_law_395 : decode code 395 = .ok (.aload_n 2, 1) := by decide +kernel
theorem d_L_law_396 : decode code 396 = .ok (.invokevirtual 55, 3) := by decide +kernel
theorem d_L_law_399 : decode code 399 = .ok (.iload 5, 2) := by decide +kernel
theorem d_L_law_401 : decode code 401 = .ok (.if_icmp .eq 5, 3) := by decide +kernel
theorem d_L_law_404 : decode code 404 = .ok (.iconst 0, 1) := by decide +kernel
theorem d_L_law_405 : decode code 405 = .ok (.ireturn, 1) := by decide +kernel
theorem d_L_law_406 : decode code 406 = .ok (.iload 5, 2) := by decide +kernel
theorem d_L_law_408 : decode code 408 = .ok (.ifCond .ne 14, 3) := by decide +kernel
theorem d_L_law_411 : decode code 411 = .ok (.aload_n 3, 1) := by decide +kernel
theorem d_L_law_412 : decode code 412 = .ok (.iconst 0, 1) := by decide +kernel
theorem d_L_law_413 : decode code 413 = .ok (.laload, 1) := by decide +kernel
theorem d_L_law_414 : decode code 414 = .ok (.lload 6, 2) := by decide +kernel
theorem d_L_law_416 : decode code 416 = .ok (.lcmp, 1) := by decide +kernel
theorem d_L_law_417 : decode code 417 = .ok (.ifCond .eq 5, 3) := by decide +kernel
theorem d_L_law_420 : decode code 420 = .ok (.iconst 0, 1) := by decide +kernel
theorem d_L_law_421 : decode code 421 = .ok (.ireturn, 1) := by decide +kernel
theorem d_L_law_422 : decode code 422 = .ok (.goto 166, 3) := by decide +kernel
theorem d_L_law_425 : decode code 425 = .ok (.aload_n 1, 1) := by decide +kernel
theorem d_L_law_426 : decode code 426 = .ok (.invokevirtual 62, 3) := by decide +kernel
theorem d_L_law_429 : decode code 429 = .ok (.aload_n 2, 1) := by decide +kernel
theorem d_L_law_430 : decode code 430 = .ok (.invokevirtual 65, 3) := by decide +kernel
theorem d_L_law_433 : decode code 433 = .ok (.if_icmp .eq 155, 3) := by decide +kernel
theorem d_L_law_436 : decode code 436 = .ok (.iconst 0, 1) := by decide +kernel
theorem d_L_law_437 : decode code 437 = .ok (.ireturn, 1) := by decide +kernel
theorem d_L_law_438 : decode code 438 = .ok (.aload_n 1, 1) := by decide +kernel
theorem d_L_law_439 : decode code 439 = .ok (.invokevirtual 66, 3) := by decide +kernel
theorem d_L_law_442 : decode code 442 = .ok (.aload_n 2, 1) := by decide +kernel
theorem d_L_law_443 : decode code 443 = .ok (.invokevirtual 69, 3) := by decide +kernel
theorem d_L_law_446 : decode code 446 = .ok (.if_icmp .eq 142, 3) := by decide +kernel
theorem d_L_law_449 : decode code 449 = .ok (.iconst 0, 1) := by decide +kernel
theorem d_L_law_450 : decode code 450 = .ok (.ireturn, 1) := by decide +kernel
theorem d_L_law_451 : decode code 451 = .ok (.aload_n 1, 1) := by decide +kernel
theorem d_L_law_452 : decode code 452 = .ok (.aload_n 0, 1) := by decide +kernel
theorem d_L_law_453 : decode code 453 = .ok (.iload 4, 2) := by decide +kernel
theorem d_L_law_455 : decode code 455 = .ok (.iconst 1, 1) := by decide +kernel
theorem d_L_law_456 : decode code 456 = .ok (.iadd, 1) := by decide +kernel
theorem d_L_law_457 : decode code 457 = .ok (.iaload, 1) := by decide +kernel
theorem d_L_law_458 : decode code 458 = .ok (.aload_n 0, 1) := by decide +kernel
theorem d_L_law_459 : decode code 459 = .ok (.iload 4, 2) := by decide +kernel
theorem d_L_law_461 : decode code 461 = .ok (.iconst 2, 1) := by decide +kernel
theorem d_L_law_462 : decode code 462 = .ok (.iadd, 1) := by decide +kernel
theorem d_L_law_463 : decode code 463 = .ok (.iaload, 1) := by decide +kernel
theorem d_L_law_464 : decode code 464 = .ok (.invokevirtual 70, 3) := by decide +kernel
theorem d_L_law_467 : decode code 467 = .ok (.aload_n 2, 1) := by decide +kernel
theorem d_L_law_468 : decode code 468 = .ok (.aload_n 0, 1) := by decide +kernel
theorem d_L_law_469 : decode code 469 = .ok (.iload 4, 2) := by decide +kernel
theorem d_L_law_471 : decode code 471 = .ok (.iconst 1, 1) := by decide +kernel
theorem d_L_law_472 : decode code 472 = .ok (.iadd, 1) := by decide +kernel
theorem d_L_law_473 : decode code 473 = .ok (.iaload, 1) := by decide +kernel
theorem d_L_law_474 : decode code 474 = .ok (.aload_n 0, 1) := by decide +kernel
theorem d_L_law_475 : decode code 475 = .ok (.iload 4, 2) := by decide +kernel
theorem d_L_law_477 : decode code 477 = .ok (.iconst 2, 1) := by decide +kernel
theorem d_L_law_478 : decode code 478 = .ok (.iadd, 1) := by decide +kernel
theorem d_L_law_479 : decode code 479 = .ok (.iaload, 1) := by decide +kernel
theorem d_L_law_480 : decode code 480 = .ok (.invokevirtual 74, 3) := by decide +kernel
theorem d_L_law_483 : decode code 483 = .ok (.if_icmp .eq 105, 3) := by decide +kernel
theorem d_L_law_486 : decode code 486 = .ok (.iconst 0, 1) := by decide +kernel
theorem d_L_law_487 : decode code 487 = .ok (.ireturn, 1) := by decide +kernel
theorem d_L_law_488 : decode code 488 = .ok (.aload_n 1, 1) := by decide +kernel
theorem d_L_law_489 : decode code 489 = .ok (.aload_n 0, 1) := by decide +kernel
theorem d_L_law_490 : decode code 490 = .ok (.iload 4, 2) := by decide +kernel
theorem d_L_law_492 : decode code 492 = .ok (.iconst 1, 1) := by decide +kernel
theorem d_L_law_493 : decode code 493 = .ok (.iadd, 1) := by decide +kernel
theorem d_L_law_494 : decode code 494 = .ok (.iaload, 1) := by decide +kernel
theorem d_L_law_495 : decode code 495 = .ok (.invokevirtual 75, 3) := by decide +kernel
theorem d_L_law_498 : decode code 498 = .ok (.aload_n 2, 1) := by decide +kernel
theorem d_L_law_499 : decode code 499 = .ok (.aload_n 0, 1) := by decide +kernel
theorem d_L_law_500 : decode code 500 = .ok (.iload 4, 2) := by decide +kernel
theorem d_L_law_502 : decode code 502 = .ok (.iconst 1, 1) := by decide +kernel
theorem d_L_law_503 : decode code 503 = .ok (.iadd, 1) := by decide +kernel
theorem d_L_law_504 : decode code 504 = .ok (.iaload, 1) := by decide +kernel
theorem d_L_law_505 : decode code 505 = .ok (.invokevirtual 78, 3) := by decide +kernel
theorem d_L_law_508 : decode code 508 = .ok (.if_icmp .eq 80, 3) := by decide +kernel
theorem d_L_law_511 : decode code 511 = .ok (.iconst 0, 1) := by decide +kernel
theorem d_L_law_512 : decode code 512 = .ok (.ireturn, 1) := by decide +kernel
theorem d_L_law_513 : decode code 513 = .ok (.aload_n 1, 1) := by decide +kernel
theorem d_L_law_514 : decode code 514 = .ok (.aload_n 0, 1) := by decide +kernel
theorem d_L_law_515 : decode code 515 = .ok (.iload 4, 2) := by decide +kernel
theorem d_L_law_517 : decode code 517 = .ok (.iconst 1, 1) := by decide +kernel
theorem d_L_law_518 : decode code 518 = .ok (.iadd, 1) := by decide +kernel
theorem d_L_law_519 : decode code 519 = .ok (.iaload, 1) := by decide +kernel
theorem d_L_law_520 : decode code 520 = .ok (.invokevirtual 79, 3) := by decide +kernel
theorem d_L_law_523 : decode code 523 = .ok (.aload_n 2, 1) := by decide +kernel
theorem d_L_law_524 : decode code 524 = .ok (.aload_n 0, 1) := by decide +kernel
theorem d_L_law_525 : decode code 525 = .ok (.iload 4, 2) := by decide +kernel
theorem d_L_law_527 : decode code 527 = .ok (.iconst 1, 1) := by decide +kernel
theorem d_L_law_528 : decode code 528 = .ok (.iadd, 1) := by decide +kernel
theorem d_L_law_529 : decode code 529 = .ok (.iaload, 1) := by decide +kernel
theorem d_L_law_530 : decode code 530 = .ok (.invokevirtual 82, 3) := by decide +kernel
theorem d_L_law_533 : decode code 533 = .ok (.if_icmp .eq 55, 3) := by decide +kernel
theorem d_L_law_536 : decode code 536 = .ok (.iconst 0, 1) := by decide +kernel
theorem d_L_law_537 : decode code 537 = .ok (.ireturn, 1) := by decide +kernel
theorem d_L_law_538 : decode code 538 = .ok (.aload_n 1, 1) := by decide +kernel
theorem d_L_law_539 : decode code 539 = .ok (.aload_n 0, 1) := by decide +kernel
theorem d_L_law_540 : decode code 540 = .ok (.iload 4, 2) := by decide +kernel
theorem d_L_law_542 : decode code 542 = .ok (.iconst 1, 1) := by decide +kernel
theorem d_L_law_543 : decode code 543 = .ok (.iadd, 1) := by decide +kernel
theorem d_L_law_544 : decode code 544 = .ok (.iaload, 1) := by decide +kernel
theorem d_L_law_545 : decode code 545 = .ok (.invokevirtual 83, 3) := by decide +kernel
theorem d_L_law_548 : decode code 548 = .ok (.aload_n 2, 1) := by decide +kernel
theorem d_L_law_549 : decode code 549 = .ok (.aload_n 0, 1) := by decide +kernel
theorem d_L_law_550 : decode code 550 = .ok (.iload 4, 2) := by decide +kernel
theorem d_L_law_552 : decode code 552 = .ok (.iconst 1, 1) := by decide +kernel
theorem d_L_law_553 : decode code 553 = .ok (.iadd, 1) := by decide +kernel
theorem d_L_law_554 : decode code 554 = .ok (.iaload, 1) := by decide +kernel
theorem d_L_law_555 : decode code 555 = .ok (.invokevirtual 86, 3) := by decide +kernel
theorem d_L_law_558 : decode code 558 = .ok (.if_icmp .eq 30, 3) := by decide +kernel
theorem d_L_law_561 : decode code 561 = .ok (.iconst 0, 1) := by decide +kernel
theorem d_L_law_562 : decode code 562 = .ok (.ireturn, 1) := by decide +kernel
theorem d_L_law_563 : decode code 563 = .ok (.aload_n 1, 1) := by decide +kernel
theorem d_L_law_564 : decode code 564 = .ok (.aload_n 0, 1) := by decide +kernel
theorem d_L_law_565 : decode code 565 = .ok (.iload 4, 2) := by decide +kernel
theorem d_L_law_567 : decode code 567 = .ok (.iconst 1, 1) := by decide +kernel
theorem d_L_law_568 : decode code 568 = .ok (.iadd, 1) := by decide +kernel
theorem d_L_law_569 : decode code 569 = .ok (.iaload, 1) := by decide +kernel
theorem d_L_law_570 : decode code 570 = .ok (.invokevirtual 87, 3) := by decide +kernel
theorem d_L_law_573 : decode code 573 = .ok (.aload_n 2, 1) := by decide +kernel
theorem d_L_law_574 : decode code 574 = .ok (.aload_n 0, 1) := by decide +kernel
theorem d_L_law_575 : decode code 575 = .ok (.iload 4, 2) := by decide +kernel
theorem d_L_law_577 : decode code 577 = .ok (.iconst 1, 1) := by decide +kernel
theorem d_L_law_578 : decode code 578 = .ok (.iadd, 1) := by decide +kernel
theorem d_L_law_579 : decode code 579 = .ok (.iaload, 1) := by decide +kernel
theorem d_L_law_580 : decode code 580 = .ok (.invokevirtual 90, 3) := by decide +kernel
theorem d_L_law_583 : decode code 583 = .ok (.if_icmp .eq 5, 3) := by decide +kernel
theorem d_L_law_586 : decode code 586 = .ok (.iconst 0, 1) := by decide +kernel
theorem d_L_law_587 : decode code 587 = .ok (.ireturn, 1) := by decide +kernel
theorem d_L_law_588 : decode code 588 = .ok (.iinc 4 5, 3) := by decide +kernel
theorem d_L_law_591 : decode code 591 = .ok (.goto (-568), 3) := by decide +kernel
theorem d_L_law_594 : decode code 594 = .ok (.iconst 1, 1) := by decide +kernel
theorem d_L_law_595 : decode code 595 = .ok (.ireturn, 1) := by decide +kernel
