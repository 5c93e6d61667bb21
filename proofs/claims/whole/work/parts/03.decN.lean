-- DECODE rows, laid by program
theorem d_N_init_0 : decode prog_1_method_1_code 0 = .ok (.aload_n 0, 1) := by decide +kernel
theorem d_N_init_1 : decode prog_1_method_1_code 1 = .ok (.invokespecial 3, 3) := by decide +kernel
theorem d_N_init_4 : decode prog_1_method_1_code 4 = .ok (.aload_n 0, 1) := by decide +kernel
theorem d_N_init_5 : decode prog_1_method_1_code 5 = .ok (.bipush 10, 2) := by decide +kernel
theorem d_N_init_7 : decode prog_1_method_1_code 7 = .ok (.anewarray 9, 3) := by decide +kernel
theorem d_N_init_10 : decode prog_1_method_1_code 10 = .ok (.putfield 11, 3) := by decide +kernel
theorem d_N_init_13 : decode prog_1_method_1_code 13 = .ok (.iconst 0, 1) := by decide +kernel
theorem d_N_init_14 : decode prog_1_method_1_code 14 = .ok (.istore_n 1, 1) := by decide +kernel
theorem d_N_init_15 : decode prog_1_method_1_code 15 = .ok (.iload_n 1, 1) := by decide +kernel
theorem d_N_init_16 : decode prog_1_method_1_code 16 = .ok (.bipush 10, 2) := by decide +kernel
theorem d_N_init_18 : decode prog_1_method_1_code 18 = .ok (.if_icmp .ge 22, 3) := by decide +kernel
theorem d_N_init_21 : decode prog_1_method_1_code 21 = .ok (.aload_n 0, 1) := by decide +kernel
theorem d_N_init_22 : decode prog_1_method_1_code 22 = .ok (.getfield 11, 3) := by decide +kernel
theorem d_N_init_25 : decode prog_1_method_1_code 25 = .ok (.iload_n 1, 1) := by decide +kernel
theorem d_N_init_26 : decode prog_1_method_1_code 26 = .ok (.new 9, 3) := by decide +kernel
theorem d_N_init_29 : decode prog_1_method_1_code 29 = .ok (.dup, 1) := by decide +kernel
theorem d_N_init_30 : decode prog_1_method_1_code 30 = .ok (.invokespecial 15, 3) := by decide +kernel
theorem d_N_init_33 : decode prog_1_method_1_code 33 = .ok (.aastore, 1) := by decide +kernel
theorem d_N_init_34 : decode prog_1_method_1_code 34 = .ok (.iinc 1 1, 3) := by decide +kernel
theorem d_N_init_37 : decode prog_1_method_1_code 37 = .ok (.goto (-22), 3) := by decide +kernel
theorem d_N_init_40 : decode prog_1_method_1_code 40 = .ok (.aload_n 0, 1) := by decide +kernel
theorem d_N_init_41 : decode prog_1_method_1_code 41 = .ok (.bipush 20, 2) := by decide +kernel
theorem d_N_init_43 : decode prog_1_method_1_code 43 = .ok (.newarray .int, 2) := by decide +kernel
theorem d_N_init_45 : decode prog_1_method_1_code 45 = .ok (.putfield 16, 3) := by decide +kernel
theorem d_N_init_48 : decode prog_1_method_1_code 48 = .ok (.aload_n 0, 1) := by decide +kernel
theorem d_N_init_49 : decode prog_1_method_1_code 49 = .ok (.bipush 10, 2) := by decide +kernel
theorem d_N_init_51 : decode prog_1_method_1_code 51 = .ok (.newarray .int, 2) := by decide +kernel
theorem d_N_init_53 : decode prog_1_method_1_code 53 = .ok (.putfield 20, 3) := by decide +kernel
theorem d_N_init_56 : decode prog_1_method_1_code 56 = .ok (.aload_n 0, 1) := by decide +kernel
theorem d_N_init_57 : decode prog_1_method_1_code 57 = .ok (.sipush 400, 3) := by decide +kernel
theorem d_N_init_60 : decode prog_1_method_1_code 60 = .ok (.newarray .int, 2) := by decide +kernel
theorem d_N_init_62 : decode prog_1_method_1_code 62 = .ok (.putfield 23, 3) := by decide +kernel
theorem d_N_init_65 : decode prog_1_method_1_code 65 = .ok (.aload_n 0, 1) := by decide +kernel
theorem d_N_init_66 : decode prog_1_method_1_code 66 = .ok (.new 26, 3) := by decide +kernel
theorem d_N_init_69 : decode prog_1_method_1_code 69 = .ok (.dup, 1) := by decide +kernel
theorem d_N_init_70 : decode prog_1_method_1_code 70 = .ok (.invokespecial 28, 3) := by decide +kernel
theorem d_N_init_73 : decode prog_1_method_1_code 73 = .ok (.putfield 29, 3) := by decide +kernel
theorem d_N_init_76 : decode prog_1_method_1_code 76 = .ok (.aload_n 0, 1) := by decide +kernel
theorem d_N_init_77 : decode prog_1_method_1_code 77 = .ok (.new 26, 3) := by decide +kernel
theorem d_N_init_80 : decode prog_1_method_1_code 80 = .ok (.dup, 1) := by decide +kernel
theorem d_N_init_81 : decode prog_1_method_1_code 81 = .ok (.invokespecial 28, 3) := by decide +kernel
theorem d_N_init_84 : decode prog_1_method_1_code 84 = .ok (.putfield 33, 3) := by decide +kernel
theorem d_N_init_87 : decode prog_1_method_1_code 87 = .ok (.aload_n 0, 1) := by decide +kernel
theorem d_N_init_88 : decode prog_1_method_1_code 88 = .ok (.new 36, 3) := by decide +kernel
theorem d_N_init_91 : decode prog_1_method_1_code 91 = .ok (.dup, 1) := by decide +kernel
theorem d_N_init_92 : decode prog_1_method_1_code 92 = .ok (.invokespecial 38, 3) := by decide +kernel
theorem d_N_init_95 : decode prog_1_method_1_code 95 = .ok (.putfield 39, 3) := by decide +kernel
theorem d_N_init_98 : decode prog_1_method_1_code 98 = .ok (.aload_n 0, 1) := by decide +kernel
theorem d_N_init_99 : decode prog_1_method_1_code 99 = .ok (.new 43, 3) := by decide +kernel
theorem d_N_init_102 : decode prog_1_method_1_code 102 = .ok (.dup, 1) := by decide +kernel
theorem d_N_init_103 : decode prog_1_method_1_code 103 = .ok (.invokespecial 45, 3) := by decide +kernel
theorem d_N_init_106 : decode prog_1_method_1_code 106 = .ok (.putfield 46, 3) := by decide +kernel
theorem d_N_init_109 : decode prog_1_method_1_code 109 = .ok (.aload_n 0, 1) := by decide +kernel
theorem d_N_init_110 : decode prog_1_method_1_code 110 = .ok (.invokevirtual 50, 3) := by decide +kernel
theorem d_N_init_113 : decode prog_1_method_1_code 113 = .ok (.return_, 1) := by decide +kernel
theorem d_N_forgetOrders_0 : decode prog_1_method_23_code 0 = .ok (.aload_n 0, 1) := by decide +kernel
theorem d_N_forgetOrders_1 : decode prog_1_method_23_code 1 = .ok (.iconst 0, 1) := by decide +kernel
theorem d_N_forgetOrders_2 : decode prog_1_method_23_code 2 = .ok (.putfield 180, 3) := by decide +kernel
theorem d_N_forgetOrders_5 : decode prog_1_method_23_code 5 = .ok (.aload_n 0, 1) := by decide +kernel
theorem d_N_forgetOrders_6 : decode prog_1_method_23_code 6 = .ok (.iconst (-1), 1) := by decide +kernel
theorem d_N_forgetOrders_7 : decode prog_1_method_23_code 7 = .ok (.putfield 184, 3) := by decide +kernel
theorem d_N_forgetOrders_10 : decode prog_1_method_23_code 10 = .ok (.aload_n 0, 1) := by decide +kernel
theorem d_N_forgetOrders_11 : decode prog_1_method_23_code 11 = .ok (.getfield 23, 3) := by decide +kernel
theorem d_N_forgetOrders_14 : decode prog_1_method_23_code 14 = .ok (.iconst (-1), 1) := by decide +kernel
theorem d_N_forgetOrders_15 : decode prog_1_method_23_code 15 = .ok (.invokestatic 97, 3) := by decide +kernel
theorem d_N_forgetOrders_18 : decode prog_1_method_23_code 18 = .ok (.return_, 1) := by decide +kernel
theorem d_N_tensor_0 : decode prog_1_method_2_code 0 = .ok (.iload_n 1, 1) := by decide +kernel
theorem d_N_tensor_1 : decode prog_1_method_2_code 1 = .ok (.ifCond .lt 18, 3) := by decide +kernel
theorem d_N_tensor_4 : decode prog_1_method_2_code 4 = .ok (.iload_n 1, 1) := by decide +kernel
theorem d_N_tensor_5 : decode prog_1_method_2_code 5 = .ok (.bipush 6, 2) := by decide +kernel
theorem d_N_tensor_7 : decode prog_1_method_2_code 7 = .ok (.if_icmp .gt 12, 3) := by decide +kernel
theorem d_N_tensor_10 : decode prog_1_method_2_code 10 = .ok (.aload_n 0, 1) := by decide +kernel
theorem d_N_tensor_11 : decode prog_1_method_2_code 11 = .ok (.getfield 53, 3) := by decide +kernel
theorem d_N_tensor_14 : decode prog_1_method_2_code 14 = .ok (.bipush 10, 2) := by decide +kernel
theorem d_N_tensor_16 : decode prog_1_method_2_code 16 = .ok (.if_icmp .lt 5, 3) := by decide +kernel
theorem d_N_tensor_19 : decode prog_1_method_2_code 19 = .ok (.iconst (-1), 1) := by decide +kernel
theorem d_N_tensor_20 : decode prog_1_method_2_code 20 = .ok (.ireturn, 1) := by decide +kernel
theorem d_N_tensor_21 : decode prog_1_method_2_code 21 = .ok (.aload_n 0, 1) := by decide +kernel
theorem d_N_tensor_22 : decode prog_1_method_2_code 22 = .ok (.getfield 11, 3) := by decide +kernel
theorem d_N_tensor_25 : decode prog_1_method_2_code 25 = .ok (.aload_n 0, 1) := by decide +kernel
theorem d_N_tensor_26 : decode prog_1_method_2_code 26 = .ok (.getfield 53, 3) := by decide +kernel
theorem d_N_tensor_29 : decode prog_1_method_2_code 29 = .ok (.aaload, 1) := by decide +kernel
theorem d_N_tensor_30 : decode prog_1_method_2_code 30 = .ok (.iload_n 1, 1) := by decide +kernel
theorem d_N_tensor_31 : decode prog_1_method_2_code 31 = .ok (.invokevirtual 57, 3) := by decide +kernel
theorem d_N_tensor_34 : decode prog_1_method_2_code 34 = .ok (.aload_n 0, 1) := by decide +kernel
theorem d_N_tensor_35 : decode prog_1_method_2_code 35 = .ok (.dup, 1) := by decide +kernel
theorem d_N_tensor_36 : decode prog_1_method_2_code 36 = .ok (.getfield 53, 3) := by decide +kernel
theorem d_N_tensor_39 : decode prog_1_method_2_code 39 = .ok (.iconst 1, 1) := by decide +kernel
theorem d_N_tensor_40 : decode prog_1_method_2_code 40 = .ok (.iadd, 1) := by decide +kernel
theorem d_N_tensor_41 : decode prog_1_method_2_code 41 = .ok (.putfield 53, 3) := by decide +kernel
theorem d_N_tensor_44 : decode prog_1_method_2_code 44 = .ok (.aload_n 0, 1) := by decide +kernel
theorem d_N_tensor_45 : decode prog_1_method_2_code 45 = .ok (.dup, 1) := by decide +kernel
theorem d_N_tensor_46 : decode prog_1_method_2_code 46 = .ok (.getfield 61, 3) := by decide +kernel
theorem d_N_tensor_49 : decode prog_1_method_2_code 49 = .ok (.iload_n 1, 1) := by decide +kernel
theorem d_N_tensor_50 : decode prog_1_method_2_code 50 = .ok (.iadd, 1) := by decide +kernel
theorem d_N_tensor_51 : decode prog_1_method_2_code 51 = .ok (.putfield 61, 3) := by decide +kernel
theorem d_N_tensor_54 : decode prog_1_method_2_code 54 = .ok (.aload_n 0, 1) := by decide +kernel
theorem d_N_tensor_55 : decode prog_1_method_2_code 55 = .ok (.dup, 1) := by decide +kernel
theorem d_N_tensor_56 : decode prog_1_method_2_code 56 = .ok (.getfield 64, 3) := by decide +kernel
theorem d_N_tensor_59 : decode prog_1_method_2_code 59 = .ok (.iload_n 1, 1) := by decide +kernel
theorem d_N_tensor_60 : decode prog_1_method_2_code 60 = .ok (.iadd, 1) := by decide +kernel
theorem d_N_tensor_61 : decode prog_1_method_2_code 61 = .ok (.putfield 64, 3) := by decide +kernel
theorem d_N_tensor_64 : decode prog_1_method_2_code 64 = .ok (.aload_n 0, 1) := by decide +kernel
theorem d_N_tensor_65 : decode prog_1_method_2_code 65 = .ok (.invokevirtual 50, 3) := by decide +kernel
theorem d_N_tensor_68 : decode prog_1_method_2_code 68 = .ok (.aload_n 0, 1) := by decide +kernel
theorem d_N_tensor_69 : decode prog_1_method_2_code 69 = .ok (.getfield 53, 3) := by decide +kernel
theorem d_N_tensor_72 : decode prog_1_method_2_code 72 = .ok (.iconst 1, 1) := by decide +kernel
theorem d_N_tensor_73 : decode prog_1_method_2_code 73 = .ok (.isub, 1) := by decide +kernel
theorem d_N_tensor_74 : decode prog_1_method_2_code 74 = .ok (.ireturn, 1) := by decide +kernel
theorem d_N_leg_0 : decode prog_1_method_3_code 0 = .ok (.aload_n 0, 1) := by decide +kernel
theorem d_N_leg_1 : decode prog_1_method_3_code 1 = .ok (.iload_n 1, 1) := by decide +kernel
theorem d_N_leg_2 : decode prog_1_method_3_code 2 = .ok (.invokevirtual 67, 3) := by decide +kernel
theorem d_N_leg_5 : decode prog_1_method_3_code 5 = .ok (.ifCond .eq 31, 3) := by decide +kernel
theorem d_N_leg_8 : decode prog_1_method_3_code 8 = .ok (.iload_n 2, 1) := by decide +kernel
theorem d_N_leg_9 : decode prog_1_method_3_code 9 = .ok (.ifCond .lt 27, 3) := by decide +kernel
theorem d_N_leg_12 : decode prog_1_method_3_code 12 = .ok (.iload_n 2, 1) := by decide +kernel
theorem d_N_leg_13 : decode prog_1_method_3_code 13 = .ok (.aload_n 0, 1) := by decide +kernel
theorem d_N_leg_14 : decode prog_1_method_3_code 14 = .ok (.getfield 11, 3) := by decide +kernel
theorem d_N_leg_17 : decode prog_1_method_3_code 17 = .ok (.iload_n 1, 1) := by decide +kernel
theorem d_N_leg_18 : decode prog_1_method_3_code 18 = .ok (.aaload, 1) := by decide +kernel
theorem d_N_leg_19 : decode prog_1_method_3_code 19 = .ok (.getfield 71, 3) := by decide +kernel
theorem d_N_leg_22 : decode prog_1_method_3_code 22 = .ok (.if_icmp .ge 14, 3) := by decide +kernel
theorem d_N_leg_25 : decode prog_1_method_3_code 25 = .ok (.iload_n 3, 1) := by decide +kernel
theorem d_N_leg_26 : decode prog_1_method_3_code 26 = .ok (.iconst (-1), 1) := by decide +kernel
theorem d_N_leg_27 : decode prog_1_method_3_code 27 = .ok (.if_icmp .lt 9, 3) := by decide +kernel
theorem d_N_leg_30 : decode prog_1_method_3_code 30 = .ok (.iload_n 3, 1) := by decide +kernel
theorem d_N_leg_31 : decode prog_1_method_3_code 31 = .ok (.bipush 20, 2) := by decide +kernel
theorem d_N_leg_33 : decode prog_1_method_3_code 33 = .ok (.if_icmp .lt 5, 3) := by decide +kernel
theorem d_N_leg_36 : decode prog_1_method_3_code 36 = .ok (.iconst 0, 1) := by decide +kernel
theorem d_N_leg_37 : decode prog_1_method_3_code 37 = .ok (.ireturn, 1) := by decide +kernel
theorem d_N_leg_38 : decode prog_1_method_3_code 38 = .ok (.aload_n 0, 1) := by decide +kernel
theorem d_N_leg_39 : decode prog_1_method_3_code 39 = .ok (.getfield 11, 3) := by decide +kernel
theorem d_N_leg_42 : decode prog_1_method_3_code 42 = .ok (.iload_n 1, 1) := by decide +kernel
theorem d_N_leg_43 : decode prog_1_method_3_code 43 = .ok (.aaload, 1) := by decide +kernel
theorem d_N_leg_44 : decode prog_1_method_3_code 44 = .ok (.getfield 74, 3) := by decide +kernel
theorem d_N_leg_47 : decode prog_1_method_3_code 47 = .ok (.iload_n 2, 1) := by decide +kernel
theorem d_N_leg_48 : decode prog_1_method_3_code 48 = .ok (.iaload, 1) := by decide +kernel
theorem d_N_leg_49 : decode prog_1_method_3_code 49 = .ok (.istore 4, 2) := by decide +kernel
theorem d_N_leg_51 : decode prog_1_method_3_code 51 = .ok (.iload_n 3, 1) := by decide +kernel
theorem d_N_leg_52 : decode prog_1_method_3_code 52 = .ok (.iload 4, 2) := by decide +kernel
theorem d_N_leg_54 : decode prog_1_method_3_code 54 = .ok (.if_icmp .ne 5, 3) := by decide +kernel
theorem d_N_leg_57 : decode prog_1_method_3_code 57 = .ok (.iconst 1, 1) := by decide +kernel
theorem d_N_leg_58 : decode prog_1_method_3_code 58 = .ok (.ireturn, 1) := by decide +kernel
theorem d_N_leg_59 : decode prog_1_method_3_code 59 = .ok (.iload_n 3, 1) := by decide +kernel
theorem d_N_leg_60 : decode prog_1_method_3_code 60 = .ok (.iconst (-1), 1) := by decide +kernel
theorem d_N_leg_61 : decode prog_1_method_3_code 61 = .ok (.if_icmp .eq 15, 3) := by decide +kernel
theorem d_N_leg_64 : decode prog_1_method_3_code 64 = .ok (.aload_n 0, 1) := by decide +kernel
theorem d_N_leg_65 : decode prog_1_method_3_code 65 = .ok (.getfield 16, 3) := by decide +kernel
theorem d_N_leg_68 : decode prog_1_method_3_code 68 = .ok (.iload_n 3, 1) := by decide +kernel
theorem d_N_leg_69 : decode prog_1_method_3_code 69 = .ok (.iaload, 1) := by decide +kernel
theorem d_N_leg_70 : decode prog_1_method_3_code 70 = .ok (.iconst 2, 1) := by decide +kernel
theorem d_N_leg_71 : decode prog_1_method_3_code 71 = .ok (.if_icmp .lt 5, 3) := by decide +kernel
theorem d_N_leg_74 : decode prog_1_method_3_code 74 = .ok (.iconst 0, 1) := by decide +kernel
theorem d_N_leg_75 : decode prog_1_method_3_code 75 = .ok (.ireturn, 1) := by decide +kernel
theorem d_N_leg_76 : decode prog_1_method_3_code 76 = .ok (.aload_n 0, 1) := by decide +kernel
theorem d_N_leg_77 : decode prog_1_method_3_code 77 = .ok (.iload 4, 2) := by decide +kernel
theorem d_N_leg_79 : decode prog_1_method_3_code 79 = .ok (.iconst (-1), 1) := by decide +kernel
theorem d_N_leg_80 : decode prog_1_method_3_code 80 = .ok (.invokevirtual 77, 3) := by decide +kernel
theorem d_N_leg_83 : decode prog_1_method_3_code 83 = .ok (.aload_n 0, 1) := by decide +kernel
theorem d_N_leg_84 : decode prog_1_method_3_code 84 = .ok (.iload_n 3, 1) := by decide +kernel
theorem d_N_leg_85 : decode prog_1_method_3_code 85 = .ok (.iconst 1, 1) := by decide +kernel
theorem d_N_leg_86 : decode prog_1_method_3_code 86 = .ok (.invokevirtual 77, 3) := by decide +kernel
theorem d_N_leg_89 : decode prog_1_method_3_code 89 = .ok (.aload_n 0, 1) := by decide +kernel
theorem d_N_leg_90 : decode prog_1_method_3_code 90 = .ok (.getfield 11, 3) := by decide +kernel
theorem d_N_leg_93 : decode prog_1_method_3_code 93 = .ok (.iload_n 1, 1) := by decide +kernel
theorem d_N_leg_94 : decode prog_1_method_3_code 94 = .ok (.aaload, 1) := by decide +kernel
theorem d_N_leg_95 : decode prog_1_method_3_code 95 = .ok (.iload_n 2, 1) := by decide +kernel
theorem d_N_leg_96 : decode prog_1_method_3_code 96 = .ok (.iload_n 3, 1) := by decide +kernel
theorem d_N_leg_97 : decode prog_1_method_3_code 97 = .ok (.invokevirtual 81, 3) := by decide +kernel
theorem d_N_leg_100 : decode prog_1_method_3_code 100 = .ok (.aload_n 0, 1) := by decide +kernel
theorem d_N_leg_101 : decode prog_1_method_3_code 101 = .ok (.invokevirtual 50, 3) := by decide +kernel
theorem d_N_leg_104 : decode prog_1_method_3_code 104 = .ok (.iconst 1, 1) := by decide +kernel
theorem d_N_leg_105 : decode prog_1_method_3_code 105 = .ok (.ireturn, 1) := by decide +kernel
theorem d_N_isTensor_0 : decode prog_1_method_17_code 0 = .ok (.iload_n 1, 1) := by decide +kernel
theorem d_N_isTensor_1 : decode prog_1_method_17_code 1 = .ok (.ifCond .lt 15, 3) := by decide +kernel
theorem d_N_isTensor_4 : decode prog_1_method_17_code 4 = .ok (.iload_n 1, 1) := by decide +kernel
theorem d_N_isTensor_5 : decode prog_1_method_17_code 5 = .ok (.aload_n 0, 1) := by decide +kernel
theorem d_N_isTensor_6 : decode prog_1_method_17_code 6 = .ok (.getfield 53, 3) := by decide +kernel
theorem d_N_isTensor_9 : decode prog_1_method_17_code 9 = .ok (.if_icmp .ge 7, 3) := by decide +kernel
theorem d_N_isTensor_12 : decode prog_1_method_17_code 12 = .ok (.iconst 1, 1) := by decide +kernel
theorem d_N_isTensor_13 : decode prog_1_method_17_code 13 = .ok (.goto 4, 3) := by decide +kernel
theorem d_N_isTensor_16 : decode prog_1_method_17_code 16 = .ok (.iconst 0, 1) := by decide +kernel
theorem d_N_isTensor_17 : decode prog_1_method_17_code 17 = .ok (.ireturn, 1) := by decide +kernel
theorem d_N_countUse_0 : decode prog_1_method_20_code 0 = .ok (.iload_n 1, 1) := by decide +kernel
theorem d_N_countUse_1 : decode prog_1_method_20_code 1 = .ok (.iconst (-1), 1) := by decide +kernel
theorem d_N_countUse_2 : decode prog_1_method_20_code 2 = .ok (.if_icmp .ne 16, 3) := by decide +kernel
theorem d_N_countUse_5 : decode prog_1_method_20_code 5 = .ok (.aload_n 0, 1) := by decide +kernel
theorem d_N_countUse_6 : decode prog_1_method_20_code 6 = .ok (.dup, 1) := by decide +kernel
theorem d_N_countUse_7 : decode prog_1_method_20_code 7 = .ok (.getfield 64, 3) := by decide +kernel
theorem d_N_countUse_10 : decode prog_1_method_20_code 10 = .ok (.iload_n 2, 1) := by decide +kernel
theorem d_N_countUse_11 : decode prog_1_method_20_code 11 = .ok (.iadd, 1) := by decide +kernel
theorem d_N_countUse_12 : decode prog_1_method_20_code 12 = .ok (.putfield 64, 3) := by decide +kernel
theorem d_N_countUse_15 : decode prog_1_method_20_code 15 = .ok (.goto 13, 3) := by decide +kernel
theorem d_N_countUse_18 : decode prog_1_method_20_code 18 = .ok (.aload_n 0, 1) := by decide +kernel
theorem d_N_countUse_19 : decode prog_1_method_20_code 19 = .ok (.getfield 16, 3) := by decide +kernel
theorem d_N_countUse_22 : decode prog_1_method_20_code 22 = .ok (.iload_n 1, 1) := by decide +kernel
theorem d_N_countUse_23 : decode prog_1_method_20_code 23 = .ok (.dup2, 1) := by decide +kernel
theorem d_N_countUse_24 : decode prog_1_method_20_code 24 = .ok (.iaload, 1) := by decide +kernel
theorem d_N_countUse_25 : decode prog_1_method_20_code 25 = .ok (.iload_n 2, 1) := by decide +kernel
theorem d_N_countUse_26 : decode prog_1_method_20_code 26 = .ok (.iadd, 1) := by decide +kernel
theorem d_N_countUse_27 : decode prog_1_method_20_code 27 = .ok (.iastore, 1) := by decide +kernel
theorem d_N_countUse_28 : decode prog_1_method_20_code 28 = .ok (.return_, 1) := by decide +kernel
theorem d_N_put_0 : decode prog_1_method_4_code 0 = .ok (.aload_n 0, 1) := by decide +kernel
theorem d_N_put_1 : decode prog_1_method_4_code 1 = .ok (.iload_n 1, 1) := by decide +kernel
theorem d_N_put_2 : decode prog_1_method_4_code 2 = .ok (.iload_n 2, 1) := by decide +kernel
theorem d_N_put_3 : decode prog_1_method_4_code 3 = .ok (.invokevirtual 84, 3) := by decide +kernel
theorem d_N_put_6 : decode prog_1_method_4_code 6 = .ok (.ifCond .eq 18, 3) := by decide +kernel
theorem d_N_put_9 : decode prog_1_method_4_code 9 = .ok (.iload_n 3, 1) := by decide +kernel
theorem d_N_put_10 : decode prog_1_method_4_code 10 = .ok (.invokestatic 88, 3) := by decide +kernel
theorem d_N_put_13 : decode prog_1_method_4_code 13 = .ok (.ifCond .eq 11, 3) := by decide +kernel
theorem d_N_put_16 : decode prog_1_method_4_code 16 = .ok (.iload 4, 2) := by decide +kernel
theorem d_N_put_18 : decode prog_1_method_4_code 18 = .ok (.invokestatic 88, 3) := by decide +kernel
theorem d_N_put_21 : decode prog_1_method_4_code 21 = .ok (.ifCond .ne 5, 3) := by decide +kernel
theorem d_N_put_24 : decode prog_1_method_4_code 24 = .ok (.iconst 0, 1) := by decide +kernel
theorem d_N_put_25 : decode prog_1_method_4_code 25 = .ok (.ireturn, 1) := by decide +kernel
theorem d_N_put_26 : decode prog_1_method_4_code 26 = .ok (.aload_n 0, 1) := by decide +kernel
theorem d_N_put_27 : decode prog_1_method_4_code 27 = .ok (.getfield 11, 3) := by decide +kernel
theorem d_N_put_30 : decode prog_1_method_4_code 30 = .ok (.iload_n 1, 1) := by decide +kernel
theorem d_N_put_31 : decode prog_1_method_4_code 31 = .ok (.aaload, 1) := by decide +kernel
theorem d_N_put_32 : decode prog_1_method_4_code 32 = .ok (.getfield 91, 3) := by decide +kernel
theorem d_N_put_35 : decode prog_1_method_4_code 35 = .ok (.iload_n 2, 1) := by decide +kernel
theorem d_N_put_36 : decode prog_1_method_4_code 36 = .ok (.iload_n 3, 1) := by decide +kernel
theorem d_N_put_37 : decode prog_1_method_4_code 37 = .ok (.iastore, 1) := by decide +kernel
theorem d_N_put_38 : decode prog_1_method_4_code 38 = .ok (.aload_n 0, 1) := by decide +kernel
theorem d_N_put_39 : decode prog_1_method_4_code 39 = .ok (.getfield 11, 3) := by decide +kernel
theorem d_N_put_42 : decode prog_1_method_4_code 42 = .ok (.iload_n 1, 1) := by decide +kernel
theorem d_N_put_43 : decode prog_1_method_4_code 43 = .ok (.aaload, 1) := by decide +kernel
theorem d_N_put_44 : decode prog_1_method_4_code 44 = .ok (.getfield 94, 3) := by decide +kernel
theorem d_N_put_47 : decode prog_1_method_4_code 47 = .ok (.iload_n 2, 1) := by decide +kernel
theorem d_N_put_48 : decode prog_1_method_4_code 48 = .ok (.iload 4, 2) := by decide +kernel
theorem d_N_put_50 : decode prog_1_method_4_code 50 = .ok (.iastore, 1) := by decide +kernel
theorem d_N_put_51 : decode prog_1_method_4_code 51 = .ok (.iconst 1, 1) := by decide +kernel
theorem d_N_put_52 : decode prog_1_method_4_code 52 = .ok (.ireturn, 1) := by decide +kernel
theorem d_N_isEntry_0 : decode prog_1_method_18_code 0 = .ok (.aload_n 0, 1) := by decide +kernel
theorem d_N_isEntry_1 : decode prog_1_method_18_code 1 = .ok (.iload_n 1, 1) := by decide +kernel
theorem d_N_isEntry_2 : decode prog_1_method_18_code 2 = .ok (.invokevirtual 67, 3) := by decide +kernel
theorem d_N_isEntry_5 : decode prog_1_method_18_code 5 = .ok (.ifCond .eq 26, 3) := by decide +kernel
theorem d_N_isEntry_8 : decode prog_1_method_18_code 8 = .ok (.iload_n 2, 1) := by decide +kernel
theorem d_N_isEntry_9 : decode prog_1_method_18_code 9 = .ok (.ifCond .lt 22, 3) := by decide +kernel
theorem d_N_isEntry_12 : decode prog_1_method_18_code 12 = .ok (.iload_n 2, 1) := by decide +kernel
theorem d_N_isEntry_13 : decode prog_1_method_18_code 13 = .ok (.iconst 1, 1) := by decide +kernel
theorem d_N_isEntry_14 : decode prog_1_method_18_code 14 = .ok (.aload_n 0, 1) := by decide +kernel
theorem d_N_isEntry_15 : decode prog_1_method_18_code 15 = .ok (.getfield 11, 3) := by decide +kernel
theorem d_N_isEntry_18 : decode prog_1_method_18_code 18 = .ok (.iload_n 1, 1) := by decide +kernel
theorem d_N_isEntry_19 : decode prog_1_method_18_code 19 = .ok (.aaload, 1) := by decide +kernel
theorem d_N_isEntry_20 : decode prog_1_method_18_code 20 = .ok (.getfield 71, 3) := by decide +kernel
theorem d_N_isEntry_23 : decode prog_1_method_18_code 23 = .ok (.ishl, 1) := by decide +kernel
theorem d_N_isEntry_24 : decode prog_1_method_18_code 24 = .ok (.if_icmp .ge 7, 3) := by decide +kernel
theorem d_N_isEntry_27 : decode prog_1_method_18_code 27 = .ok (.iconst 1, 1) := by decide +kernel
theorem d_N_isEntry_28 : decode prog_1_method_18_code 28 = .ok (.goto 4, 3) := by decide +kernel
theorem d_N_isEntry_31 : decode prog_1_method_18_code 31 = .ok (.iconst 0, 1) := by decide +kernel
theorem d_N_isEntry_32 : decode prog_1_method_18_code 32 = .ok (.ireturn, 1) := by decide +kernel
theorem d_N_isPart_0 : decode prog_1_method_19_code 0 = .ok (.iload_n 0, 1) := by decide +kernel
theorem d_N_isPart_1 : decode prog_1_method_19_code 1 = .ok (.bipush (-9), 2) := by decide +kernel
theorem d_N_isPart_3 : decode prog_1_method_19_code 3 = .ok (.if_icmp .lt 13, 3) := by decide +kernel
theorem d_N_isPart_6 : decode prog_1_method_19_code 6 = .ok (.iload_n 0, 1) := by decide +kernel
theorem d_N_isPart_7 : decode prog_1_method_19_code 7 = .ok (.bipush 9, 2) := by decide +kernel
theorem d_N_isPart_9 : decode prog_1_method_19_code 9 = .ok (.if_icmp .gt 7, 3) := by decide +kernel
theorem d_N_isPart_12 : decode prog_1_method_19_code 12 = .ok (.iconst 1, 1) := by decide +kernel
theorem d_N_isPart_13 : decode prog_1_method_19_code 13 = .ok (.goto 4, 3) := by decide +kernel
theorem d_N_isPart_16 : decode prog_1_method_19_code 16 = .ok (.iconst 0, 1) := by decide +kernel
theorem d_N_isPart_17 : decode prog_1_method_19_code 17 = .ok (.ireturn, 1) := by decide +kernel
theorem d_N_clear_0 : decode prog_1_method_5_code 0 = .ok (.aload_n 0, 1) := by decide +kernel
theorem d_N_clear_1 : decode prog_1_method_5_code 1 = .ok (.iconst 0, 1) := by decide +kernel
theorem d_N_clear_2 : decode prog_1_method_5_code 2 = .ok (.putfield 53, 3) := by decide +kernel
theorem d_N_clear_5 : decode prog_1_method_5_code 5 = .ok (.aload_n 0, 1) := by decide +kernel
theorem d_N_clear_6 : decode prog_1_method_5_code 6 = .ok (.iconst 0, 1) := by decide +kernel
theorem d_N_clear_7 : decode prog_1_method_5_code 7 = .ok (.putfield 61, 3) := by decide +kernel
theorem d_N_clear_10 : decode prog_1_method_5_code 10 = .ok (.aload_n 0, 1) := by decide +kernel
theorem d_N_clear_11 : decode prog_1_method_5_code 11 = .ok (.iconst 0, 1) := by decide +kernel
theorem d_N_clear_12 : decode prog_1_method_5_code 12 = .ok (.putfield 64, 3) := by decide +kernel
theorem d_N_clear_15 : decode prog_1_method_5_code 15 = .ok (.aload_n 0, 1) := by decide +kernel
theorem d_N_clear_16 : decode prog_1_method_5_code 16 = .ok (.getfield 16, 3) := by decide +kernel
theorem d_N_clear_19 : decode prog_1_method_5_code 19 = .ok (.iconst 0, 1) := by decide +kernel
theorem d_N_clear_20 : decode prog_1_method_5_code 20 = .ok (.invokestatic 97, 3) := by decide +kernel
theorem d_N_clear_23 : decode prog_1_method_5_code 23 = .ok (.aload_n 0, 1) := by decide +kernel
theorem d_N_clear_24 : decode prog_1_method_5_code 24 = .ok (.invokevirtual 50, 3) := by decide +kernel
theorem d_N_clear_27 : decode prog_1_method_5_code 27 = .ok (.return_, 1) := by decide +kernel
theorem d_N_open_0 : decode prog_1_method_6_code 0 = .ok (.aload_n 0, 1) := by decide +kernel
theorem d_N_open_1 : decode prog_1_method_6_code 1 = .ok (.invokevirtual 103, 3) := by decide +kernel
theorem d_N_open_4 : decode prog_1_method_6_code 4 = .ok (.ifCond .eq 11, 3) := by decide +kernel
theorem d_N_open_7 : decode prog_1_method_6_code 7 = .ok (.aload_n 0, 1) := by decide +kernel
theorem d_N_open_8 : decode prog_1_method_6_code 8 = .ok (.iconst 1, 1) := by decide +kernel
theorem d_N_open_9 : decode prog_1_method_6_code 9 = .ok (.invokevirtual 107, 3) := by decide +kernel
theorem d_N_open_12 : decode prog_1_method_6_code 12 = .ok (.goto 4, 3) := by decide +kernel
theorem d_N_open_15 : decode prog_1_method_6_code 15 = .ok (.iconst (-1), 1) := by decide +kernel
theorem d_N_open_16 : decode prog_1_method_6_code 16 = .ok (.ireturn, 1) := by decide +kernel
theorem d_N_isReady_0 : decode prog_1_method_16_code 0 = .ok (.aload_n 0, 1) := by decide +kernel
theorem d_N_isReady_1 : decode prog_1_method_16_code 1 = .ok (.getfield 53, 3) := by decide +kernel
theorem d_N_isReady_4 : decode prog_1_method_16_code 4 = .ok (.ifCond .le 14, 3) := by decide +kernel
theorem d_N_isReady_7 : decode prog_1_method_16_code 7 = .ok (.aload_n 0, 1) := by decide +kernel
theorem d_N_isReady_8 : decode prog_1_method_16_code 8 = .ok (.getfield 64, 3) := by decide +kernel
theorem d_N_isReady_11 : decode prog_1_method_16_code 11 = .ok (.ifCond .ne 7, 3) := by decide +kernel
theorem d_N_isReady_14 : decode prog_1_method_16_code 14 = .ok (.iconst 1, 1) := by decide +kernel
theorem d_N_isReady_15 : decode prog_1_method_16_code 15 = .ok (.goto 4, 3) := by decide +kernel
theorem d_N_isReady_18 : decode prog_1_method_16_code 18 = .ok (.iconst 0, 1) := by decide +kernel
theorem d_N_isReady_19 : decode prog_1_method_16_code 19 = .ok (.ireturn, 1) := by decide +kernel
theorem d_N_namesUsed_0 : decode prog_1_method_21_code 0 = .ok (.iconst 0, 1) := by decide +kernel
theorem d_N_namesUsed_1 : decode prog_1_method_21_code 1 = .ok (.istore_n 2, 1) := by decide +kernel
theorem d_N_namesUsed_2 : decode prog_1_method_21_code 2 = .ok (.iconst 0, 1) := by decide +kernel
theorem d_N_namesUsed_3 : decode prog_1_method_21_code 3 = .ok (.istore_n 3, 1) := by decide +kernel
theorem d_N_namesUsed_4 : decode prog_1_method_21_code 4 = .ok (.iload_n 3, 1) := by decide +kernel
theorem d_N_namesUsed_5 : decode prog_1_method_21_code 5 = .ok (.bipush 20, 2) := by decide +kernel
theorem d_N_namesUsed_7 : decode prog_1_method_21_code 7 = .ok (.if_icmp .ge 25, 3) := by decide +kernel
theorem d_N_namesUsed_10 : decode prog_1_method_21_code 10 = .ok (.aload_n 0, 1) := by decide +kernel
theorem d_N_namesUsed_11 : decode prog_1_method_21_code 11 = .ok (.getfield 16, 3) := by decide +kernel
theorem d_N_namesUsed_14 : decode prog_1_method_21_code 14 = .ok (.iload_n 3, 1) := by decide +kernel
theorem d_N_namesUsed_15 : decode prog_1_method_21_code 15 = .ok (.iaload, 1) := by decide +kernel
theorem d_N_namesUsed_16 : decode prog_1_method_21_code 16 = .ok (.iload_n 1, 1) := by decide +kernel
theorem d_N_namesUsed_17 : decode prog_1_method_21_code 17 = .ok (.if_icmp .ne 9, 3) := by decide +kernel
theorem d_N_namesUsed_20 : decode prog_1_method_21_code 20 = .ok (.iload_n 2, 1) := by decide +kernel
theorem d_N_namesUsed_21 : decode prog_1_method_21_code 21 = .ok (.iconst 1, 1) := by decide +kernel
theorem d_N_namesUsed_22 : decode prog_1_method_21_code 22 = .ok (.iload_n 3, 1) := by decide +kernel
theorem d_N_namesUsed_23 : decode prog_1_method_21_code 23 = .ok (.ishl, 1) := by decide +kernel
theorem d_N_namesUsed_24 : decode prog_1_method_21_code 24 = .ok (.ior, 1) := by decide +kernel
theorem d_N_namesUsed_25 : decode prog_1_method_21_code 25 = .ok (.istore_n 2, 1) := by decide +kernel
theorem d_N_namesUsed_26 : decode prog_1_method_21_code 26 = .ok (.iinc 3 1, 3) := by decide +kernel
theorem d_N_namesUsed_29 : decode prog_1_method_21_code 29 = .ok (.goto (-25), 3) := by decide +kernel
theorem d_N_namesUsed_32 : decode prog_1_method_21_code 32 = .ok (.iload_n 2, 1) := by decide +kernel
theorem d_N_namesUsed_33 : decode prog_1_method_21_code 33 = .ok (.ireturn, 1) := by decide +kernel
theorem d_N_cost_0 : decode prog_1_method_9_code 0 = .ok (.aload_n 0, 1) := by decide +kernel
theorem d_N_cost_1 : decode prog_1_method_9_code 1 = .ok (.invokevirtual 103, 3) := by decide +kernel
theorem d_N_cost_4 : decode prog_1_method_9_code 4 = .ok (.ifCond .eq 13, 3) := by decide +kernel
theorem d_N_cost_7 : decode prog_1_method_9_code 7 = .ok (.aload_n 0, 1) := by decide +kernel
theorem d_N_cost_8 : decode prog_1_method_9_code 8 = .ok (.invokevirtual 128, 3) := by decide +kernel
theorem d_N_cost_11 : decode prog_1_method_9_code 11 = .ok (.getfield 132, 3) := by decide +kernel
theorem d_N_cost_14 : decode prog_1_method_9_code 14 = .ok (.goto 4, 3) := by decide +kernel
theorem d_N_cost_17 : decode prog_1_method_9_code 17 = .ok (.iconst (-1), 1) := by decide +kernel
theorem d_N_cost_18 : decode prog_1_method_9_code 18 = .ok (.ireturn, 1) := by decide +kernel
theorem d_N_orderOfAll_0 : decode prog_1_method_26_code 0 = .ok (.aload_n 0, 1) := by decide +kernel
theorem d_N_orderOfAll_1 : decode prog_1_method_26_code 1 = .ok (.getfield 180, 3) := by decide +kernel
theorem d_N_orderOfAll_4 : decode prog_1_method_26_code 4 = .ok (.ifCond .ne 17, 3) := by decide +kernel
theorem d_N_orderOfAll_7 : decode prog_1_method_26_code 7 = .ok (.aload_n 0, 1) := by decide +kernel
theorem d_N_orderOfAll_8 : decode prog_1_method_26_code 8 = .ok (.aload_n 0, 1) := by decide +kernel
theorem d_N_orderOfAll_9 : decode prog_1_method_26_code 9 = .ok (.getfield 29, 3) := by decide +kernel
theorem d_N_orderOfAll_12 : decode prog_1_method_26_code 12 = .ok (.iconst 0, 1) := by decide +kernel
theorem d_N_orderOfAll_13 : decode prog_1_method_26_code 13 = .ok (.invokevirtual 191, 3) := by decide +kernel
theorem d_N_orderOfAll_16 : decode prog_1_method_26_code 16 = .ok (.aload_n 0, 1) := by decide +kernel
theorem d_N_orderOfAll_17 : decode prog_1_method_26_code 17 = .ok (.iconst 1, 1) := by decide +kernel
theorem d_N_orderOfAll_18 : decode prog_1_method_26_code 18 = .ok (.putfield 180, 3) := by decide +kernel
theorem d_N_orderOfAll_21 : decode prog_1_method_26_code 21 = .ok (.aload_n 0, 1) := by decide +kernel
theorem d_N_orderOfAll_22 : decode prog_1_method_26_code 22 = .ok (.getfield 29, 3) := by decide +kernel
theorem d_N_orderOfAll_25 : decode prog_1_method_26_code 25 = .ok (.areturn, 1) := by decide +kernel
theorem d_N_findOrder_0 : decode prog_1_method_25_code 0 = .ok (.aload_n 0, 1) := by decide +kernel
theorem d_N_findOrder_1 : decode prog_1_method_25_code 1 = .ok (.iload_n 2, 1) := by decide +kernel
theorem d_N_findOrder_2 : decode prog_1_method_25_code 2 = .ok (.invokevirtual 144, 3) := by decide +kernel
theorem d_N_findOrder_5 : decode prog_1_method_25_code 5 = .ok (.aload_n 0, 1) := by decide +kernel
theorem d_N_findOrder_6 : decode prog_1_method_25_code 6 = .ok (.getfield 39, 3) := by decide +kernel
theorem d_N_findOrder_9 : decode prog_1_method_25_code 9 = .ok (.aload_n 0, 1) := by decide +kernel
theorem d_N_findOrder_10 : decode prog_1_method_25_code 10 = .ok (.getfield 20, 3) := by decide +kernel
theorem d_N_findOrder_13 : decode prog_1_method_25_code 13 = .ok (.aload_n 0, 1) := by decide +kernel
theorem d_N_findOrder_14 : decode prog_1_method_25_code 14 = .ok (.getfield 53, 3) := by decide +kernel
theorem d_N_findOrder_17 : decode prog_1_method_25_code 17 = .ok (.invokevirtual 147, 3) := by decide +kernel
theorem d_N_findOrder_20 : decode prog_1_method_25_code 20 = .ok (.aload_n 1, 1) := by decide +kernel
theorem d_N_findOrder_21 : decode prog_1_method_25_code 21 = .ok (.aload_n 0, 1) := by decide +kernel
theorem d_N_findOrder_22 : decode prog_1_method_25_code 22 = .ok (.getfield 20, 3) := by decide +kernel
theorem d_N_findOrder_25 : decode prog_1_method_25_code 25 = .ok (.aload_n 0, 1) := by decide +kernel
theorem d_N_findOrder_26 : decode prog_1_method_25_code 26 = .ok (.getfield 53, 3) := by decide +kernel
theorem d_N_findOrder_29 : decode prog_1_method_25_code 29 = .ok (.aload_n 0, 1) := by decide +kernel
theorem d_N_findOrder_30 : decode prog_1_method_25_code 30 = .ok (.getfield 39, 3) := by decide +kernel
theorem d_N_findOrder_33 : decode prog_1_method_25_code 33 = .ok (.getfield 150, 3) := by decide +kernel
theorem d_N_findOrder_36 : decode prog_1_method_25_code 36 = .ok (.invokevirtual 187, 3) := by decide +kernel
theorem d_N_findOrder_39 : decode prog_1_method_25_code 39 = .ok (.return_, 1) := by decide +kernel
theorem d_N_takeLegs_0 : decode prog_1_method_24_code 0 = .ok (.iconst 0, 1) := by decide +kernel
theorem d_N_takeLegs_1 : decode prog_1_method_24_code 1 = .ok (.istore_n 2, 1) := by decide +kernel
theorem d_N_takeLegs_2 : decode prog_1_method_24_code 2 = .ok (.iload_n 2, 1) := by decide +kernel
theorem d_N_takeLegs_3 : decode prog_1_method_24_code 3 = .ok (.aload_n 0, 1) := by decide +kernel
theorem d_N_takeLegs_4 : decode prog_1_method_24_code 4 = .ok (.getfield 53, 3) := by decide +kernel
theorem d_N_takeLegs_7 : decode prog_1_method_24_code 7 = .ok (.if_icmp .ge 28, 3) := by decide +kernel
theorem d_N_takeLegs_10 : decode prog_1_method_24_code 10 = .ok (.aload_n 0, 1) := by decide +kernel
theorem d_N_takeLegs_11 : decode prog_1_method_24_code 11 = .ok (.getfield 20, 3) := by decide +kernel
theorem d_N_takeLegs_14 : decode prog_1_method_24_code 14 = .ok (.iload_n 2, 1) := by decide +kernel
theorem d_N_takeLegs_15 : decode prog_1_method_24_code 15 = .ok (.aload_n 0, 1) := by decide +kernel
theorem d_N_takeLegs_16 : decode prog_1_method_24_code 16 = .ok (.getfield 11, 3) := by decide +kernel
theorem d_N_takeLegs_19 : decode prog_1_method_24_code 19 = .ok (.iload_n 2, 1) := by decide +kernel
theorem d_N_takeLegs_20 : decode prog_1_method_24_code 20 = .ok (.aaload, 1) := by decide +kernel
theorem d_N_takeLegs_21 : decode prog_1_method_24_code 21 = .ok (.getfield 177, 3) := by decide +kernel
theorem d_N_takeLegs_24 : decode prog_1_method_24_code 24 = .ok (.iload_n 1, 1) := by decide +kernel
theorem d_N_takeLegs_25 : decode prog_1_method_24_code 25 = .ok (.iconst (-1), 1) := by decide +kernel
theorem d_N_takeLegs_26 : decode prog_1_method_24_code 26 = .ok (.ixor, 1) := by decide +kernel
theorem d_N_takeLegs_27 : decode prog_1_method_24_code 27 = .ok (.iand, 1) := by decide +kernel
theorem d_N_takeLegs_28 : decode prog_1_method_24_code 28 = .ok (.iastore, 1) := by decide +kernel
theorem d_N_takeLegs_29 : decode prog_1_method_24_code 29 = .ok (.iinc 2 1, 3) := by decide +kernel
theorem d_N_takeLegs_32 : decode prog_1_method_24_code 32 = .ok (.goto (-30), 3) := by decide +kernel
theorem d_N_takeLegs_35 : decode prog_1_method_24_code 35 = .ok (.return_, 1) := by decide +kernel
theorem d_N_isIn_0 : decode prog_1_method_35_code 0 = .ok (.iload_n 1, 1) := by decide +kernel
theorem d_N_isIn_1 : decode prog_1_method_35_code 1 = .ok (.iload_n 0, 1) := by decide +kernel
theorem d_N_isIn_2 : decode prog_1_method_35_code 2 = .ok (.ishr, 1) := by decide +kernel
theorem d_N_isIn_3 : decode prog_1_method_35_code 3 = .ok (.iconst 1, 1) := by decide +kernel
theorem d_N_isIn_4 : decode prog_1_method_35_code 4 = .ok (.iand, 1) := by decide +kernel
theorem d_N_isIn_5 : decode prog_1_method_35_code 5 = .ok (.iconst 1, 1) := by decide +kernel
theorem d_N_isIn_6 : decode prog_1_method_35_code 6 = .ok (.if_icmp .ne 7, 3) := by decide +kernel
theorem d_N_isIn_9 : decode prog_1_method_35_code 9 = .ok (.iconst 1, 1) := by decide +kernel
theorem d_N_isIn_10 : decode prog_1_method_35_code 10 = .ok (.goto 4, 3) := by decide +kernel
theorem d_N_isIn_13 : decode prog_1_method_35_code 13 = .ok (.iconst 0, 1) := by decide +kernel
theorem d_N_isIn_14 : decode prog_1_method_35_code 14 = .ok (.ireturn, 1) := by decide +kernel
theorem d_N_peak_0 : decode prog_1_method_10_code 0 = .ok (.aload_n 0, 1) := by decide +kernel
theorem d_N_peak_1 : decode prog_1_method_10_code 1 = .ok (.invokevirtual 103, 3) := by decide +kernel
theorem d_N_peak_4 : decode prog_1_method_10_code 4 = .ok (.ifCond .eq 13, 3) := by decide +kernel
theorem d_N_peak_7 : decode prog_1_method_10_code 7 = .ok (.aload_n 0, 1) := by decide +kernel
theorem d_N_peak_8 : decode prog_1_method_10_code 8 = .ok (.invokevirtual 128, 3) := by decide +kernel
theorem d_N_peak_11 : decode prog_1_method_10_code 11 = .ok (.getfield 135, 3) := by decide +kernel
theorem d_N_peak_14 : decode prog_1_method_10_code 14 = .ok (.goto 4, 3) := by decide +kernel
theorem d_N_peak_17 : decode prog_1_method_10_code 17 = .ok (.iconst (-1), 1) := by decide +kernel
theorem d_N_peak_18 : decode prog_1_method_10_code 18 = .ok (.ireturn, 1) := by decide +kernel
theorem d_N_step_0 : decode prog_1_method_11_code 0 = .ok (.aload_n 0, 1) := by decide +kernel
theorem d_N_step_1 : decode prog_1_method_11_code 1 = .ok (.invokevirtual 103, 3) := by decide +kernel
theorem d_N_step_4 : decode prog_1_method_11_code 4 = .ok (.ifCond .eq 26, 3) := by decide +kernel
theorem d_N_step_7 : decode prog_1_method_11_code 7 = .ok (.iload_n 1, 1) := by decide +kernel
theorem d_N_step_8 : decode prog_1_method_11_code 8 = .ok (.ifCond .lt 22, 3) := by decide +kernel
theorem d_N_step_11 : decode prog_1_method_11_code 11 = .ok (.iload_n 1, 1) := by decide +kernel
theorem d_N_step_12 : decode prog_1_method_11_code 12 = .ok (.aload_n 0, 1) := by decide +kernel
theorem d_N_step_13 : decode prog_1_method_11_code 13 = .ok (.getfield 53, 3) := by decide +kernel
theorem d_N_step_16 : decode prog_1_method_11_code 16 = .ok (.iconst 1, 1) := by decide +kernel
theorem d_N_step_17 : decode prog_1_method_11_code 17 = .ok (.isub, 1) := by decide +kernel
theorem d_N_step_18 : decode prog_1_method_11_code 18 = .ok (.if_icmp .ge 12, 3) := by decide +kernel
theorem d_N_step_21 : decode prog_1_method_11_code 21 = .ok (.iload_n 2, 1) := by decide +kernel
theorem d_N_step_22 : decode prog_1_method_11_code 22 = .ok (.ifCond .lt 8, 3) := by decide +kernel
theorem d_N_step_25 : decode prog_1_method_11_code 25 = .ok (.iload_n 2, 1) := by decide +kernel
theorem d_N_step_26 : decode prog_1_method_11_code 26 = .ok (.iconst 1, 1) := by decide +kernel
theorem d_N_step_27 : decode prog_1_method_11_code 27 = .ok (.if_icmp .le 5, 3) := by decide +kernel
theorem d_N_step_30 : decode prog_1_method_11_code 30 = .ok (.iconst (-1), 1) := by decide +kernel
theorem d_N_step_31 : decode prog_1_method_11_code 31 = .ok (.ireturn, 1) := by decide +kernel
theorem d_N_step_32 : decode prog_1_method_11_code 32 = .ok (.aload_n 0, 1) := by decide +kernel
theorem d_N_step_33 : decode prog_1_method_11_code 33 = .ok (.invokevirtual 128, 3) := by decide +kernel
theorem d_N_step_36 : decode prog_1_method_11_code 36 = .ok (.astore_n 3, 1) := by decide +kernel
theorem d_N_step_37 : decode prog_1_method_11_code 37 = .ok (.aload_n 3, 1) := by decide +kernel
theorem d_N_step_38 : decode prog_1_method_11_code 38 = .ok (.getfield 138, 3) := by decide +kernel
theorem d_N_step_41 : decode prog_1_method_11_code 41 = .ok (.iload_n 1, 1) := by decide +kernel
theorem d_N_step_42 : decode prog_1_method_11_code 42 = .ok (.iaload, 1) := by decide +kernel
theorem d_N_step_43 : decode prog_1_method_11_code 43 = .ok (.istore 4, 2) := by decide +kernel
theorem d_N_step_45 : decode prog_1_method_11_code 45 = .ok (.aload_n 3, 1) := by decide +kernel
theorem d_N_step_46 : decode prog_1_method_11_code 46 = .ok (.getfield 141, 3) := by decide +kernel
theorem d_N_step_49 : decode prog_1_method_11_code 49 = .ok (.iload 4, 2) := by decide +kernel
theorem d_N_step_51 : decode prog_1_method_11_code 51 = .ok (.iaload, 1) := by decide +kernel
theorem d_N_step_52 : decode prog_1_method_11_code 52 = .ok (.istore 5, 2) := by decide +kernel
theorem d_N_step_54 : decode prog_1_method_11_code 54 = .ok (.iload_n 2, 1) := by decide +kernel
theorem d_N_step_55 : decode prog_1_method_11_code 55 = .ok (.ifCond .ne 8, 3) := by decide +kernel
theorem d_N_step_58 : decode prog_1_method_11_code 58 = .ok (.iload 5, 2) := by decide +kernel
theorem d_N_step_60 : decode prog_1_method_11_code 60 = .ok (.goto 8, 3) := by decide +kernel
theorem d_N_step_63 : decode prog_1_method_11_code 63 = .ok (.iload 4, 2) := by decide +kernel
theorem d_N_step_65 : decode prog_1_method_11_code 65 = .ok (.iload 5, 2) := by decide +kernel
theorem d_N_step_67 : decode prog_1_method_11_code 67 = .ok (.ixor, 1) := by decide +kernel
theorem d_N_step_68 : decode prog_1_method_11_code 68 = .ok (.ireturn, 1) := by decide +kernel
theorem d_N_greedy_0 : decode prog_1_method_12_code 0 = .ok (.aload_n 0, 1) := by decide +kernel
theorem d_N_greedy_1 : decode prog_1_method_12_code 1 = .ok (.invokevirtual 103, 3) := by decide +kernel
theorem d_N_greedy_4 : decode prog_1_method_12_code 4 = .ok (.ifCond .ne 5, 3) := by decide +kernel
theorem d_N_greedy_7 : decode prog_1_method_12_code 7 = .ok (.iconst (-1), 1) := by decide +kernel
theorem d_N_greedy_8 : decode prog_1_method_12_code 8 = .ok (.ireturn, 1) := by decide +kernel
theorem d_N_greedy_9 : decode prog_1_method_12_code 9 = .ok (.aload_n 0, 1) := by decide +kernel
theorem d_N_greedy_10 : decode prog_1_method_12_code 10 = .ok (.iconst 0, 1) := by decide +kernel
theorem d_N_greedy_11 : decode prog_1_method_12_code 11 = .ok (.invokevirtual 144, 3) := by decide +kernel
theorem d_N_greedy_14 : decode prog_1_method_12_code 14 = .ok (.aload_n 0, 1) := by decide +kernel
theorem d_N_greedy_15 : decode prog_1_method_12_code 15 = .ok (.getfield 39, 3) := by decide +kernel
theorem d_N_greedy_18 : decode prog_1_method_12_code 18 = .ok (.aload_n 0, 1) := by decide +kernel
theorem d_N_greedy_19 : decode prog_1_method_12_code 19 = .ok (.getfield 20, 3) := by decide +kernel
theorem d_N_greedy_22 : decode prog_1_method_12_code 22 = .ok (.aload_n 0, 1) := by decide +kernel
theorem d_N_greedy_23 : decode prog_1_method_12_code 23 = .ok (.getfield 53, 3) := by decide +kernel
theorem d_N_greedy_26 : decode prog_1_method_12_code 26 = .ok (.invokevirtual 147, 3) := by decide +kernel
theorem d_N_greedy_29 : decode prog_1_method_12_code 29 = .ok (.iload_n 1, 1) := by decide +kernel
theorem d_N_greedy_30 : decode prog_1_method_12_code 30 = .ok (.iconst (-1), 1) := by decide +kernel
theorem d_N_greedy_31 : decode prog_1_method_12_code 31 = .ok (.if_icmp .ne 11, 3) := by decide +kernel
theorem d_N_greedy_34 : decode prog_1_method_12_code 34 = .ok (.aload_n 0, 1) := by decide +kernel
theorem d_N_greedy_35 : decode prog_1_method_12_code 35 = .ok (.getfield 39, 3) := by decide +kernel
theorem d_N_greedy_38 : decode prog_1_method_12_code 38 = .ok (.getfield 150, 3) := by decide +kernel
theorem d_N_greedy_41 : decode prog_1_method_12_code 41 = .ok (.ireturn, 1) := by decide +kernel
theorem d_N_greedy_42 : decode prog_1_method_12_code 42 = .ok (.aload_n 0, 1) := by decide +kernel
theorem d_N_greedy_43 : decode prog_1_method_12_code 43 = .ok (.getfield 53, 3) := by decide +kernel
theorem d_N_greedy_46 : decode prog_1_method_12_code 46 = .ok (.iconst 1, 1) := by decide +kernel
theorem d_N_greedy_47 : decode prog_1_method_12_code 47 = .ok (.isub, 1) := by decide +kernel
theorem d_N_greedy_48 : decode prog_1_method_12_code 48 = .ok (.istore_n 2, 1) := by decide +kernel
theorem d_N_greedy_49 : decode prog_1_method_12_code 49 = .ok (.iload_n 1, 1) := by decide +kernel
theorem d_N_greedy_50 : decode prog_1_method_12_code 50 = .ok (.ifCond .lt 18, 3) := by decide +kernel
theorem d_N_greedy_53 : decode prog_1_method_12_code 53 = .ok (.iload_n 1, 1) := by decide +kernel
theorem d_N_greedy_54 : decode prog_1_method_12_code 54 = .ok (.iload_n 2, 1) := by decide +kernel
theorem d_N_greedy_55 : decode prog_1_method_12_code 55 = .ok (.if_icmp .ge 13, 3) := by decide +kernel
theorem d_N_greedy_58 : decode prog_1_method_12_code 58 = .ok (.aload_n 0, 1) := by decide +kernel
theorem d_N_greedy_59 : decode prog_1_method_12_code 59 = .ok (.getfield 39, 3) := by decide +kernel
theorem d_N_greedy_62 : decode prog_1_method_12_code 62 = .ok (.getfield 151, 3) := by decide +kernel
theorem d_N_greedy_65 : decode prog_1_method_12_code 65 = .ok (.iload_n 1, 1) := by decide +kernel
theorem d_N_greedy_66 : decode prog_1_method_12_code 66 = .ok (.iaload, 1) := by decide +kernel
theorem d_N_greedy_67 : decode prog_1_method_12_code 67 = .ok (.ireturn, 1) := by decide +kernel
theorem d_N_greedy_68 : decode prog_1_method_12_code 68 = .ok (.iload_n 1, 1) := by decide +kernel
theorem d_N_greedy_69 : decode prog_1_method_12_code 69 = .ok (.bipush 100, 2) := by decide +kernel
theorem d_N_greedy_71 : decode prog_1_method_12_code 71 = .ok (.if_icmp .lt 24, 3) := by decide +kernel
theorem d_N_greedy_74 : decode prog_1_method_12_code 74 = .ok (.iload_n 1, 1) := by decide +kernel
theorem d_N_greedy_75 : decode prog_1_method_12_code 75 = .ok (.bipush 100, 2) := by decide +kernel
theorem d_N_greedy_77 : decode prog_1_method_12_code 77 = .ok (.iload_n 2, 1) := by decide +kernel
theorem d_N_greedy_78 : decode prog_1_method_12_code 78 = .ok (.iadd, 1) := by decide +kernel
theorem d_N_greedy_79 : decode prog_1_method_12_code 79 = .ok (.if_icmp .ge 16, 3) := by decide +kernel
theorem d_N_greedy_82 : decode prog_1_method_12_code 82 = .ok (.aload_n 0, 1) := by decide +kernel
theorem d_N_greedy_83 : decode prog_1_method_12_code 83 = .ok (.getfield 39, 3) := by decide +kernel
theorem d_N_greedy_86 : decode prog_1_method_12_code 86 = .ok (.getfield 154, 3) := by decide +kernel
theorem d_N_greedy_89 : decode prog_1_method_12_code 89 = .ok (.iload_n 1, 1) := by decide +kernel
theorem d_N_greedy_90 : decode prog_1_method_12_code 90 = .ok (.bipush 100, 2) := by decide +kernel
theorem d_N_greedy_92 : decode prog_1_method_12_code 92 = .ok (.isub, 1) := by decide +kernel
theorem d_N_greedy_93 : decode prog_1_method_12_code 93 = .ok (.iaload, 1) := by decide +kernel
theorem d_N_greedy_94 : decode prog_1_method_12_code 94 = .ok (.ireturn, 1) := by decide +kernel
theorem d_N_greedy_95 : decode prog_1_method_12_code 95 = .ok (.iconst (-1), 1) := by decide +kernel
theorem d_N_greedy_96 : decode prog_1_method_12_code 96 = .ok (.ireturn, 1) := by decide +kernel
theorem d_N_cut_0 : decode prog_1_method_13_code 0 = .ok (.aload_n 0, 1) := by decide +kernel
theorem d_N_cut_1 : decode prog_1_method_13_code 1 = .ok (.invokevirtual 103, 3) := by decide +kernel
theorem d_N_cut_4 : decode prog_1_method_13_code 4 = .ok (.ifCond .eq 7, 3) := by decide +kernel
theorem d_N_cut_7 : decode prog_1_method_13_code 7 = .ok (.iload_n 1, 1) := by decide +kernel
theorem d_N_cut_8 : decode prog_1_method_13_code 8 = .ok (.ifCond .ge 5, 3) := by decide +kernel
theorem d_N_cut_11 : decode prog_1_method_13_code 11 = .ok (.iconst (-1), 1) := by decide +kernel
theorem d_N_cut_12 : decode prog_1_method_13_code 12 = .ok (.ireturn, 1) := by decide +kernel
theorem d_N_cut_13 : decode prog_1_method_13_code 13 = .ok (.aload_n 0, 1) := by decide +kernel
theorem d_N_cut_14 : decode prog_1_method_13_code 14 = .ok (.invokevirtual 128, 3) := by decide +kernel
theorem d_N_cut_17 : decode prog_1_method_13_code 17 = .ok (.getfield 135, 3) := by decide +kernel
theorem d_N_cut_20 : decode prog_1_method_13_code 20 = .ok (.iload_n 1, 1) := by decide +kernel
theorem d_N_cut_21 : decode prog_1_method_13_code 21 = .ok (.if_icmp .gt 5, 3) := by decide +kernel
theorem d_N_cut_24 : decode prog_1_method_13_code 24 = .ok (.iconst 0, 1) := by decide +kernel
theorem d_N_cut_25 : decode prog_1_method_13_code 25 = .ok (.ireturn, 1) := by decide +kernel
theorem d_N_cut_26 : decode prog_1_method_13_code 26 = .ok (.aload_n 0, 1) := by decide +kernel
theorem d_N_cut_27 : decode prog_1_method_13_code 27 = .ok (.invokevirtual 157, 3) := by decide +kernel
theorem d_N_cut_30 : decode prog_1_method_13_code 30 = .ok (.istore_n 2, 1) := by decide +kernel
theorem d_N_cut_31 : decode prog_1_method_13_code 31 = .ok (.aload_n 0, 1) := by decide +kernel
theorem d_N_cut_32 : decode prog_1_method_13_code 32 = .ok (.iload_n 2, 1) := by decide +kernel
theorem d_N_cut_33 : decode prog_1_method_13_code 33 = .ok (.iload_n 1, 1) := by decide +kernel
theorem d_N_cut_34 : decode prog_1_method_13_code 34 = .ok (.invokevirtual 161, 3) := by decide +kernel
theorem d_N_cut_37 : decode prog_1_method_13_code 37 = .ok (.istore_n 3, 1) := by decide +kernel
theorem d_N_cut_38 : decode prog_1_method_13_code 38 = .ok (.iload_n 3, 1) := by decide +kernel
theorem d_N_cut_39 : decode prog_1_method_13_code 39 = .ok (.iconst (-1), 1) := by decide +kernel
theorem d_N_cut_40 : decode prog_1_method_13_code 40 = .ok (.if_icmp .eq 7, 3) := by decide +kernel
theorem d_N_cut_43 : decode prog_1_method_13_code 43 = .ok (.iload_n 3, 1) := by decide +kernel
theorem d_N_cut_44 : decode prog_1_method_13_code 44 = .ok (.goto 9, 3) := by decide +kernel
theorem d_N_cut_47 : decode prog_1_method_13_code 47 = .ok (.aload_n 0, 1) := by decide +kernel
theorem d_N_cut_48 : decode prog_1_method_13_code 48 = .ok (.iload_n 2, 1) := by decide +kernel
theorem d_N_cut_49 : decode prog_1_method_13_code 49 = .ok (.iload_n 1, 1) := by decide +kernel
theorem d_N_cut_50 : decode prog_1_method_13_code 50 = .ok (.invokevirtual 165, 3) := by decide +kernel
theorem d_N_cut_53 : decode prog_1_method_13_code 53 = .ok (.ireturn, 1) := by decide +kernel
theorem d_N_namesBetweenTensors_0 : decode prog_1_method_22_code 0 = .ok (.iconst 0, 1) := by decide +kernel
theorem d_N_namesBetweenTensors_1 : decode prog_1_method_22_code 1 = .ok (.istore_n 1, 1) := by decide +kernel
theorem d_N_namesBetweenTensors_2 : decode prog_1_method_22_code 2 = .ok (.iconst 0, 1) := by decide +kernel
theorem d_N_namesBetweenTensors_3 : decode prog_1_method_22_code 3 = .ok (.istore_n 2, 1) := by decide +kernel
theorem d_N_namesBetweenTensors_4 : decode prog_1_method_22_code 4 = .ok (.iload_n 2, 1) := by decide +kernel
theorem d_N_namesBetweenTensors_5 : decode prog_1_method_22_code 5 = .ok (.aload_n 0, 1) := by decide +kernel
theorem d_N_namesBetweenTensors_6 : decode prog_1_method_22_code 6 = .ok (.getfield 53, 3) := by decide +kernel
theorem d_N_namesBetweenTensors_9 : decode prog_1_method_22_code 9 = .ok (.if_icmp .ge 21, 3) := by decide +kernel
theorem d_N_namesBetweenTensors_12 : decode prog_1_method_22_code 12 = .ok (.iload_n 1, 1) := by decide +kernel
theorem d_N_namesBetweenTensors_13 : decode prog_1_method_22_code 13 = .ok (.aload_n 0, 1) := by decide +kernel
theorem d_N_namesBetweenTensors_14 : decode prog_1_method_22_code 14 = .ok (.getfield 11, 3) := by decide +kernel
theorem d_N_namesBetweenTensors_17 : decode prog_1_method_22_code 17 = .ok (.iload_n 2, 1) := by decide +kernel
theorem d_N_namesBetweenTensors_18 : decode prog_1_method_22_code 18 = .ok (.aaload, 1) := by decide +kernel
theorem d_N_namesBetweenTensors_19 : decode prog_1_method_22_code 19 = .ok (.getfield 177, 3) := by decide +kernel
theorem d_N_namesBetweenTensors_22 : decode prog_1_method_22_code 22 = .ok (.ior, 1) := by decide +kernel
theorem d_N_namesBetweenTensors_23 : decode prog_1_method_22_code 23 = .ok (.istore_n 1, 1) := by decide +kernel
theorem d_N_namesBetweenTensors_24 : decode prog_1_method_22_code 24 = .ok (.iinc 2 1, 3) := by decide +kernel
theorem d_N_namesBetweenTensors_27 : decode prog_1_method_22_code 27 = .ok (.goto (-23), 3) := by decide +kernel
theorem d_N_namesBetweenTensors_30 : decode prog_1_method_22_code 30 = .ok (.iload_n 1, 1) := by decide +kernel
theorem d_N_namesBetweenTensors_31 : decode prog_1_method_22_code 31 = .ok (.aload_n 0, 1) := by decide +kernel
theorem d_N_namesBetweenTensors_32 : decode prog_1_method_22_code 32 = .ok (.iconst 2, 1) := by decide +kernel
theorem d_N_namesBetweenTensors_33 : decode prog_1_method_22_code 33 = .ok (.invokevirtual 107, 3) := by decide +kernel
theorem d_N_namesBetweenTensors_36 : decode prog_1_method_22_code 36 = .ok (.iand, 1) := by decide +kernel
theorem d_N_namesBetweenTensors_37 : decode prog_1_method_22_code 37 = .ok (.ireturn, 1) := by decide +kernel
theorem d_N_leastSingleCut_0 : decode prog_1_method_28_code 0 = .ok (.iconst 0, 1) := by decide +kernel
theorem d_N_leastSingleCut_1 : decode prog_1_method_28_code 1 = .ok (.istore_n 3, 1) := by decide +kernel
theorem d_N_leastSingleCut_2 : decode prog_1_method_28_code 2 = .ok (.iload_n 3, 1) := by decide +kernel
theorem d_N_leastSingleCut_3 : decode prog_1_method_28_code 3 = .ok (.bipush 20, 2) := by decide +kernel
theorem d_N_leastSingleCut_5 : decode prog_1_method_28_code 5 = .ok (.if_icmp .ge 31, 3) := by decide +kernel
theorem d_N_leastSingleCut_8 : decode prog_1_method_28_code 8 = .ok (.iload_n 3, 1) := by decide +kernel
theorem d_N_leastSingleCut_9 : decode prog_1_method_28_code 9 = .ok (.iload_n 1, 1) := by decide +kernel
theorem d_N_leastSingleCut_10 : decode prog_1_method_28_code 10 = .ok (.invokestatic 195, 3) := by decide +kernel
theorem d_N_leastSingleCut_13 : decode prog_1_method_28_code 13 = .ok (.ifCond .eq 17, 3) := by decide +kernel
theorem d_N_leastSingleCut_16 : decode prog_1_method_28_code 16 = .ok (.aload_n 0, 1) := by decide +kernel
theorem d_N_leastSingleCut_17 : decode prog_1_method_28_code 17 = .ok (.iload_n 3, 1) := by decide +kernel
theorem d_N_leastSingleCut_18 : decode prog_1_method_28_code 18 = .ok (.iload_n 3, 1) := by decide +kernel
theorem d_N_leastSingleCut_19 : decode prog_1_method_28_code 19 = .ok (.iload_n 2, 1) := by decide +kernel
theorem d_N_leastSingleCut_20 : decode prog_1_method_28_code 20 = .ok (.invokevirtual 198, 3) := by decide +kernel
theorem d_N_leastSingleCut_23 : decode prog_1_method_28_code 23 = .ok (.ifCond .eq 7, 3) := by decide +kernel
theorem d_N_leastSingleCut_26 : decode prog_1_method_28_code 26 = .ok (.iconst 1, 1) := by decide +kernel
theorem d_N_leastSingleCut_27 : decode prog_1_method_28_code 27 = .ok (.iload_n 3, 1) := by decide +kernel
theorem d_N_leastSingleCut_28 : decode prog_1_method_28_code 28 = .ok (.ishl, 1) := by decide +kernel
theorem d_N_leastSingleCut_29 : decode prog_1_method_28_code 29 = .ok (.ireturn, 1) := by decide +kernel
theorem d_N_leastSingleCut_30 : decode prog_1_method_28_code 30 = .ok (.iinc 3 1, 3) := by decide +kernel
theorem d_N_leastSingleCut_33 : decode prog_1_method_28_code 33 = .ok (.goto (-31), 3) := by decide +kernel
theorem d_N_leastSingleCut_36 : decode prog_1_method_28_code 36 = .ok (.iconst (-1), 1) := by decide +kernel
theorem d_N_leastSingleCut_37 : decode prog_1_method_28_code 37 = .ok (.ireturn, 1) := by decide +kernel
theorem d_N_isLowWhenCut_0 : decode prog_1_method_30_code 0 = .ok (.iconst 1, 1) := by decide +kernel
theorem d_N_isLowWhenCut_1 : decode prog_1_method_30_code 1 = .ok (.iload_n 1, 1) := by decide +kernel
theorem d_N_isLowWhenCut_2 : decode prog_1_method_30_code 2 = .ok (.ishl, 1) := by decide +kernel
theorem d_N_isLowWhenCut_3 : decode prog_1_method_30_code 3 = .ok (.iconst 1, 1) := by decide +kernel
theorem d_N_isLowWhenCut_4 : decode prog_1_method_30_code 4 = .ok (.iload_n 2, 1) := by decide +kernel
theorem d_N_isLowWhenCut_5 : decode prog_1_method_30_code 5 = .ok (.ishl, 1) := by decide +kernel
theorem d_N_isLowWhenCut_6 : decode prog_1_method_30_code 6 = .ok (.ior, 1) := by decide +kernel
theorem d_N_isLowWhenCut_7 : decode prog_1_method_30_code 7 = .ok (.istore 4, 2) := by decide +kernel
theorem d_N_isLowWhenCut_9 : decode prog_1_method_30_code 9 = .ok (.aload_n 0, 1) := by decide +kernel
theorem d_N_isLowWhenCut_10 : decode prog_1_method_30_code 10 = .ok (.iload 4, 2) := by decide +kernel
theorem d_N_isLowWhenCut_12 : decode prog_1_method_30_code 12 = .ok (.iload_n 3, 1) := by decide +kernel
theorem d_N_isLowWhenCut_13 : decode prog_1_method_30_code 13 = .ok (.invokevirtual 202, 3) := by decide +kernel
theorem d_N_isLowWhenCut_16 : decode prog_1_method_30_code 16 = .ok (.ifCond .ne 5, 3) := by decide +kernel
theorem d_N_isLowWhenCut_19 : decode prog_1_method_30_code 19 = .ok (.iconst 0, 1) := by decide +kernel
theorem d_N_isLowWhenCut_20 : decode prog_1_method_30_code 20 = .ok (.ireturn, 1) := by decide +kernel
theorem d_N_isLowWhenCut_21 : decode prog_1_method_30_code 21 = .ok (.iload_n 1, 1) := by decide +kernel
theorem d_N_isLowWhenCut_22 : decode prog_1_method_30_code 22 = .ok (.bipush 20, 2) := by decide +kernel
theorem d_N_isLowWhenCut_24 : decode prog_1_method_30_code 24 = .ok (.imul, 1) := by decide +kernel
theorem d_N_isLowWhenCut_25 : decode prog_1_method_30_code 25 = .ok (.iload_n 2, 1) := by decide +kernel
theorem d_N_isLowWhenCut_26 : decode prog_1_method_30_code 26 = .ok (.iadd, 1) := by decide +kernel
theorem d_N_isLowWhenCut_27 : decode prog_1_method_30_code 27 = .ok (.istore 5, 2) := by decide +kernel
theorem d_N_isLowWhenCut_29 : decode prog_1_method_30_code 29 = .ok (.aload_n 0, 1) := by decide +kernel
theorem d_N_isLowWhenCut_30 : decode prog_1_method_30_code 30 = .ok (.getfield 23, 3) := by decide +kernel
theorem d_N_isLowWhenCut_33 : decode prog_1_method_30_code 33 = .ok (.iload 5, 2) := by decide +kernel
theorem d_N_isLowWhenCut_35 : decode prog_1_method_30_code 35 = .ok (.iaload, 1) := by decide +kernel
theorem d_N_isLowWhenCut_36 : decode prog_1_method_30_code 36 = .ok (.iconst (-1), 1) := by decide +kernel
theorem d_N_isLowWhenCut_37 : decode prog_1_method_30_code 37 = .ok (.if_icmp .ne 19, 3) := by decide +kernel
theorem d_N_isLowWhenCut_40 : decode prog_1_method_30_code 40 = .ok (.aload_n 0, 1) := by decide +kernel
theorem d_N_isLowWhenCut_41 : decode prog_1_method_30_code 41 = .ok (.getfield 23, 3) := by decide +kernel
theorem d_N_isLowWhenCut_44 : decode prog_1_method_30_code 44 = .ok (.iload 5, 2) := by decide +kernel
theorem d_N_isLowWhenCut_46 : decode prog_1_method_30_code 46 = .ok (.aload_n 0, 1) := by decide +kernel
theorem d_N_isLowWhenCut_47 : decode prog_1_method_30_code 47 = .ok (.iload 4, 2) := by decide +kernel
theorem d_N_isLowWhenCut_49 : decode prog_1_method_30_code 49 = .ok (.invokevirtual 168, 3) := by decide +kernel
theorem d_N_isLowWhenCut_52 : decode prog_1_method_30_code 52 = .ok (.getfield 135, 3) := by decide +kernel
theorem d_N_isLowWhenCut_55 : decode prog_1_method_30_code 55 = .ok (.iastore, 1) := by decide +kernel
theorem d_N_isLowWhenCut_56 : decode prog_1_method_30_code 56 = .ok (.aload_n 0, 1) := by decide +kernel
theorem d_N_isLowWhenCut_57 : decode prog_1_method_30_code 57 = .ok (.getfield 23, 3) := by decide +kernel
theorem d_N_isLowWhenCut_60 : decode prog_1_method_30_code 60 = .ok (.iload 5, 2) := by decide +kernel
theorem d_N_isLowWhenCut_62 : decode prog_1_method_30_code 62 = .ok (.iaload, 1) := by decide +kernel
theorem d_N_isLowWhenCut_63 : decode prog_1_method_30_code 63 = .ok (.iload_n 3, 1) := by decide +kernel
theorem d_N_isLowWhenCut_64 : decode prog_1_method_30_code 64 = .ok (.if_icmp .gt 7, 3) := by decide +kernel
theorem d_N_isLowWhenCut_67 : decode prog_1_method_30_code 67 = .ok (.iconst 1, 1) := by decide +kernel
theorem d_N_isLowWhenCut_68 : decode prog_1_method_30_code 68 = .ok (.goto 4, 3) := by decide +kernel
theorem d_N_isLowWhenCut_71 : decode prog_1_method_30_code 71 = .ok (.iconst 0, 1) := by decide +kernel
theorem d_N_isLowWhenCut_72 : decode prog_1_method_30_code 72 = .ok (.ireturn, 1) := by decide +kernel
theorem d_N_areTensorsLow_0 : decode prog_1_method_31_code 0 = .ok (.iconst 0, 1) := by decide +kernel
theorem d_N_areTensorsLow_1 : decode prog_1_method_31_code 1 = .ok (.istore_n 3, 1) := by decide +kernel
theorem d_N_areTensorsLow_2 : decode prog_1_method_31_code 2 = .ok (.iload_n 3, 1) := by decide +kernel
theorem d_N_areTensorsLow_3 : decode prog_1_method_31_code 3 = .ok (.aload_n 0, 1) := by decide +kernel
theorem d_N_areTensorsLow_4 : decode prog_1_method_31_code 4 = .ok (.getfield 53, 3) := by decide +kernel
theorem d_N_areTensorsLow_7 : decode prog_1_method_31_code 7 = .ok (.if_icmp .ge 31, 3) := by decide +kernel
theorem d_N_areTensorsLow_10 : decode prog_1_method_31_code 10 = .ok (.aload_n 0, 1) := by decide +kernel
theorem d_N_areTensorsLow_11 : decode prog_1_method_31_code 11 = .ok (.getfield 11, 3) := by decide +kernel
theorem d_N_areTensorsLow_14 : decode prog_1_method_31_code 14 = .ok (.iload_n 3, 1) := by decide +kernel
theorem d_N_areTensorsLow_15 : decode prog_1_method_31_code 15 = .ok (.aaload, 1) := by decide +kernel
theorem d_N_areTensorsLow_16 : decode prog_1_method_31_code 16 = .ok (.getfield 177, 3) := by decide +kernel
theorem d_N_areTensorsLow_19 : decode prog_1_method_31_code 19 = .ok (.iload_n 1, 1) := by decide +kernel
theorem d_N_areTensorsLow_20 : decode prog_1_method_31_code 20 = .ok (.iconst (-1), 1) := by decide +kernel
theorem d_N_areTensorsLow_21 : decode prog_1_method_31_code 21 = .ok (.ixor, 1) := by decide +kernel
theorem d_N_areTensorsLow_22 : decode prog_1_method_31_code 22 = .ok (.iand, 1) := by decide +kernel
theorem d_N_areTensorsLow_23 : decode prog_1_method_31_code 23 = .ok (.invokestatic 172, 3) := by decide +kernel
theorem d_N_areTensorsLow_26 : decode prog_1_method_31_code 26 = .ok (.iload_n 2, 1) := by decide +kernel
theorem d_N_areTensorsLow_27 : decode prog_1_method_31_code 27 = .ok (.if_icmp .le 5, 3) := by decide +kernel
theorem d_N_areTensorsLow_30 : decode prog_1_method_31_code 30 = .ok (.iconst 0, 1) := by decide +kernel
theorem d_N_areTensorsLow_31 : decode prog_1_method_31_code 31 = .ok (.ireturn, 1) := by decide +kernel
theorem d_N_areTensorsLow_32 : decode prog_1_method_31_code 32 = .ok (.iinc 3 1, 3) := by decide +kernel
theorem d_N_areTensorsLow_35 : decode prog_1_method_31_code 35 = .ok (.goto (-33), 3) := by decide +kernel
theorem d_N_areTensorsLow_38 : decode prog_1_method_31_code 38 = .ok (.iconst 1, 1) := by decide +kernel
theorem d_N_areTensorsLow_39 : decode prog_1_method_31_code 39 = .ok (.ireturn, 1) := by decide +kernel
theorem d_N_orderWhenCut_0 : decode prog_1_method_27_code 0 = .ok (.aload_n 0, 1) := by decide +kernel
theorem d_N_orderWhenCut_1 : decode prog_1_method_27_code 1 = .ok (.getfield 184, 3) := by decide +kernel
theorem d_N_orderWhenCut_4 : decode prog_1_method_27_code 4 = .ok (.iload_n 1, 1) := by decide +kernel
theorem d_N_orderWhenCut_5 : decode prog_1_method_27_code 5 = .ok (.if_icmp .eq 17, 3) := by decide +kernel
theorem d_N_orderWhenCut_8 : decode prog_1_method_27_code 8 = .ok (.aload_n 0, 1) := by decide +kernel
theorem d_N_orderWhenCut_9 : decode prog_1_method_27_code 9 = .ok (.aload_n 0, 1) := by decide +kernel
theorem d_N_orderWhenCut_10 : decode prog_1_method_27_code 10 = .ok (.getfield 33, 3) := by decide +kernel
theorem d_N_orderWhenCut_13 : decode prog_1_method_27_code 13 = .ok (.iload_n 1, 1) := by decide +kernel
theorem d_N_orderWhenCut_14 : decode prog_1_method_27_code 14 = .ok (.invokevirtual 191, 3) := by decide +kernel
theorem d_N_orderWhenCut_17 : decode prog_1_method_27_code 17 = .ok (.aload_n 0, 1) := by decide +kernel
theorem d_N_orderWhenCut_18 : decode prog_1_method_27_code 18 = .ok (.iload_n 1, 1) := by decide +kernel
theorem d_N_orderWhenCut_19 : decode prog_1_method_27_code 19 = .ok (.putfield 184, 3) := by decide +kernel
theorem d_N_orderWhenCut_22 : decode prog_1_method_27_code 22 = .ok (.aload_n 0, 1) := by decide +kernel
theorem d_N_orderWhenCut_23 : decode prog_1_method_27_code 23 = .ok (.getfield 33, 3) := by decide +kernel
theorem d_N_orderWhenCut_26 : decode prog_1_method_27_code 26 = .ok (.areturn, 1) := by decide +kernel
theorem d_N_leastDoubleCut_0 : decode prog_1_method_29_code 0 = .ok (.iconst 1, 1) := by decide +kernel
theorem d_N_leastDoubleCut_1 : decode prog_1_method_29_code 1 = .ok (.istore_n 3, 1) := by decide +kernel
theorem d_N_leastDoubleCut_2 : decode prog_1_method_29_code 2 = .ok (.iload_n 3, 1) := by decide +kernel
theorem d_N_leastDoubleCut_3 : decode prog_1_method_29_code 3 = .ok (.bipush 20, 2) := by decide +kernel
theorem d_N_leastDoubleCut_5 : decode prog_1_method_29_code 5 = .ok (.if_icmp .ge 61, 3) := by decide +kernel
theorem d_N_leastDoubleCut_8 : decode prog_1_method_29_code 8 = .ok (.iconst 0, 1) := by decide +kernel
theorem d_N_leastDoubleCut_9 : decode prog_1_method_29_code 9 = .ok (.istore 4, 2) := by decide +kernel
theorem d_N_leastDoubleCut_11 : decode prog_1_method_29_code 11 = .ok (.iload 4, 2) := by decide +kernel
theorem d_N_leastDoubleCut_13 : decode prog_1_method_29_code 13 = .ok (.iload_n 3, 1) := by decide +kernel
theorem d_N_leastDoubleCut_14 : decode prog_1_method_29_code 14 = .ok (.if_icmp .ge 46, 3) := by decide +kernel
theorem d_N_leastDoubleCut_17 : decode prog_1_method_29_code 17 = .ok (.iload_n 3, 1) := by decide +kernel
theorem d_N_leastDoubleCut_18 : decode prog_1_method_29_code 18 = .ok (.iload_n 1, 1) := by decide +kernel
theorem d_N_leastDoubleCut_19 : decode prog_1_method_29_code 19 = .ok (.invokestatic 195, 3) := by decide +kernel
theorem d_N_leastDoubleCut_22 : decode prog_1_method_29_code 22 = .ok (.ifCond .eq 38, 3) := by decide +kernel
theorem d_N_leastDoubleCut_25 : decode prog_1_method_29_code 25 = .ok (.iload 4, 2) := by decide +kernel
theorem d_N_leastDoubleCut_27 : decode prog_1_method_29_code 27 = .ok (.iload_n 1, 1) := by decide +kernel
theorem d_N_leastDoubleCut_28 : decode prog_1_method_29_code 28 = .ok (.invokestatic 195, 3) := by decide +kernel
theorem d_N_leastDoubleCut_31 : decode prog_1_method_29_code 31 = .ok (.ifCond .eq 23, 3) := by decide +kernel
theorem d_N_leastDoubleCut_34 : decode prog_1_method_29_code 34 = .ok (.aload_n 0, 1) := by decide +kernel
theorem d_N_leastDoubleCut_35 : decode prog_1_method_29_code 35 = .ok (.iload_n 3, 1) := by decide +kernel
theorem d_N_leastDoubleCut_36 : decode prog_1_method_29_code 36 = .ok (.iload 4, 2) := by decide +kernel
theorem d_N_leastDoubleCut_38 : decode prog_1_method_29_code 38 = .ok (.iload_n 2, 1) := by decide +kernel
theorem d_N_leastDoubleCut_39 : decode prog_1_method_29_code 39 = .ok (.invokevirtual 198, 3) := by decide +kernel
theorem d_N_leastDoubleCut_42 : decode prog_1_method_29_code 42 = .ok (.ifCond .eq 12, 3) := by decide +kernel
theorem d_N_leastDoubleCut_45 : decode prog_1_method_29_code 45 = .ok (.iconst 1, 1) := by decide +kernel
theorem d_N_leastDoubleCut_46 : decode prog_1_method_29_code 46 = .ok (.iload_n 3, 1) := by decide +kernel
theorem d_N_leastDoubleCut_47 : decode prog_1_method_29_code 47 = .ok (.ishl, 1) := by decide +kernel
theorem d_N_leastDoubleCut_48 : decode prog_1_method_29_code 48 = .ok (.iconst 1, 1) := by decide +kernel
theorem d_N_leastDoubleCut_49 : decode prog_1_method_29_code 49 = .ok (.iload 4, 2) := by decide +kernel
theorem d_N_leastDoubleCut_51 : decode prog_1_method_29_code 51 = .ok (.ishl, 1) := by decide +kernel
theorem d_N_leastDoubleCut_52 : decode prog_1_method_29_code 52 = .ok (.ior, 1) := by decide +kernel
theorem d_N_leastDoubleCut_53 : decode prog_1_method_29_code 53 = .ok (.ireturn, 1) := by decide +kernel
theorem d_N_leastDoubleCut_54 : decode prog_1_method_29_code 54 = .ok (.iinc 4 1, 3) := by decide +kernel
theorem d_N_leastDoubleCut_57 : decode prog_1_method_29_code 57 = .ok (.goto (-46), 3) := by decide +kernel
theorem d_N_leastDoubleCut_60 : decode prog_1_method_29_code 60 = .ok (.iinc 3 1, 3) := by decide +kernel
theorem d_N_leastDoubleCut_63 : decode prog_1_method_29_code 63 = .ok (.goto (-61), 3) := by decide +kernel
theorem d_N_leastDoubleCut_66 : decode prog_1_method_29_code 66 = .ok (.iconst (-1), 1) := by decide +kernel
theorem d_N_leastDoubleCut_67 : decode prog_1_method_29_code 67 = .ok (.ireturn, 1) := by decide +kernel
theorem d_N_costOf_0 : decode prog_1_method_14_code 0 = .ok (.aload_n 0, 1) := by decide +kernel
theorem d_N_costOf_1 : decode prog_1_method_14_code 1 = .ok (.invokevirtual 103, 3) := by decide +kernel
theorem d_N_costOf_4 : decode prog_1_method_14_code 4 = .ok (.ifCond .eq 15, 3) := by decide +kernel
theorem d_N_costOf_7 : decode prog_1_method_14_code 7 = .ok (.iload_n 1, 1) := by decide +kernel
theorem d_N_costOf_8 : decode prog_1_method_14_code 8 = .ok (.aload_n 0, 1) := by decide +kernel
theorem d_N_costOf_9 : decode prog_1_method_14_code 9 = .ok (.iconst 2, 1) := by decide +kernel
theorem d_N_costOf_10 : decode prog_1_method_14_code 10 = .ok (.invokevirtual 107, 3) := by decide +kernel
theorem d_N_costOf_13 : decode prog_1_method_14_code 13 = .ok (.iconst (-1), 1) := by decide +kernel
theorem d_N_costOf_14 : decode prog_1_method_14_code 14 = .ok (.ixor, 1) := by decide +kernel
theorem d_N_costOf_15 : decode prog_1_method_14_code 15 = .ok (.iand, 1) := by decide +kernel
theorem d_N_costOf_16 : decode prog_1_method_14_code 16 = .ok (.ifCond .eq 5, 3) := by decide +kernel
theorem d_N_costOf_19 : decode prog_1_method_14_code 19 = .ok (.iconst (-1), 1) := by decide +kernel
theorem d_N_costOf_20 : decode prog_1_method_14_code 20 = .ok (.ireturn, 1) := by decide +kernel
theorem d_N_costOf_21 : decode prog_1_method_14_code 21 = .ok (.iload_n 1, 1) := by decide +kernel
theorem d_N_costOf_22 : decode prog_1_method_14_code 22 = .ok (.ifCond .ne 10, 3) := by decide +kernel
theorem d_N_costOf_25 : decode prog_1_method_14_code 25 = .ok (.aload_n 0, 1) := by decide +kernel
theorem d_N_costOf_26 : decode prog_1_method_14_code 26 = .ok (.invokevirtual 128, 3) := by decide +kernel
theorem d_N_costOf_29 : decode prog_1_method_14_code 29 = .ok (.goto 8, 3) := by decide +kernel
theorem d_N_costOf_32 : decode prog_1_method_14_code 32 = .ok (.aload_n 0, 1) := by decide +kernel
theorem d_N_costOf_33 : decode prog_1_method_14_code 33 = .ok (.iload_n 1, 1) := by decide +kernel
theorem d_N_costOf_34 : decode prog_1_method_14_code 34 = .ok (.invokevirtual 168, 3) := by decide +kernel
theorem d_N_costOf_37 : decode prog_1_method_14_code 37 = .ok (.astore_n 2, 1) := by decide +kernel
theorem d_N_costOf_38 : decode prog_1_method_14_code 38 = .ok (.aload_n 2, 1) := by decide +kernel
theorem d_N_costOf_39 : decode prog_1_method_14_code 39 = .ok (.getfield 132, 3) := by decide +kernel
theorem d_N_costOf_42 : decode prog_1_method_14_code 42 = .ok (.iload_n 1, 1) := by decide +kernel
theorem d_N_costOf_43 : decode prog_1_method_14_code 43 = .ok (.invokestatic 172, 3) := by decide +kernel
theorem d_N_costOf_46 : decode prog_1_method_14_code 46 = .ok (.ishl, 1) := by decide +kernel
theorem d_N_costOf_47 : decode prog_1_method_14_code 47 = .ok (.ireturn, 1) := by decide +kernel
theorem d_N_total_0 : decode prog_1_method_15_code 0 = .ok (.iload_n 1, 1) := by decide +kernel
theorem d_N_total_1 : decode prog_1_method_15_code 1 = .ok (.tableswitch 63 0 3 #[31, 36, 41, 46], 31) := by decide +kernel
theorem d_N_total_32 : decode prog_1_method_15_code 32 = .ok (.aload_n 0, 1) := by decide +kernel
theorem d_N_total_33 : decode prog_1_method_15_code 33 = .ok (.getfield 53, 3) := by decide +kernel
theorem d_N_total_36 : decode prog_1_method_15_code 36 = .ok (.ireturn, 1) := by decide +kernel
theorem d_N_total_37 : decode prog_1_method_15_code 37 = .ok (.aload_n 0, 1) := by decide +kernel
theorem d_N_total_38 : decode prog_1_method_15_code 38 = .ok (.getfield 61, 3) := by decide +kernel
theorem d_N_total_41 : decode prog_1_method_15_code 41 = .ok (.ireturn, 1) := by decide +kernel
theorem d_N_total_42 : decode prog_1_method_15_code 42 = .ok (.aload_n 0, 1) := by decide +kernel
theorem d_N_total_43 : decode prog_1_method_15_code 43 = .ok (.getfield 64, 3) := by decide +kernel
theorem d_N_total_46 : decode prog_1_method_15_code 46 = .ok (.ireturn, 1) := by decide +kernel
theorem d_N_total_47 : decode prog_1_method_15_code 47 = .ok (.aload_n 0, 1) := by decide +kernel
theorem d_N_total_48 : decode prog_1_method_15_code 48 = .ok (.invokevirtual 103, 3) := by decide +kernel
theorem d_N_total_51 : decode prog_1_method_15_code 51 = .ok (.ifCond .eq 11, 3) := by decide +kernel
theorem d_N_total_54 : decode prog_1_method_15_code 54 = .ok (.aload_n 0, 1) := by decide +kernel
theorem d_N_total_55 : decode prog_1_method_15_code 55 = .ok (.iconst 2, 1) := by decide +kernel
theorem d_N_total_56 : decode prog_1_method_15_code 56 = .ok (.invokevirtual 107, 3) := by decide +kernel
theorem d_N_total_59 : decode prog_1_method_15_code 59 = .ok (.goto 4, 3) := by decide +kernel
theorem d_N_total_62 : decode prog_1_method_15_code 62 = .ok (.iconst 0, 1) := by decide +kernel
theorem d_N_total_63 : decode prog_1_method_15_code 63 = .ok (.ireturn, 1) := by decide +kernel
theorem d_N_total_64 : decode prog_1_method_15_code 64 = .ok (.iconst (-1), 1) := by decide +kernel
theorem d_N_total_65 : decode prog_1_method_15_code 65 = .ok (.ireturn, 1) := by decide +kernel
theorem d_N_value_0 : decode prog_1_method_7_code 0 = .ok (.aload_n 0, 1) := by decide +kernel
theorem d_N_value_1 : decode prog_1_method_7_code 1 = .ok (.iload_n 1, 1) := by decide +kernel
theorem d_N_value_2 : decode prog_1_method_7_code 2 = .ok (.iload_n 2, 1) := by decide +kernel
theorem d_N_value_3 : decode prog_1_method_7_code 3 = .ok (.invokevirtual 111, 3) := by decide +kernel
theorem d_N_value_6 : decode prog_1_method_7_code 6 = .ok (.aload_n 0, 1) := by decide +kernel
theorem d_N_value_7 : decode prog_1_method_7_code 7 = .ok (.invokevirtual 114, 3) := by decide +kernel
theorem d_N_value_10 : decode prog_1_method_7_code 10 = .ok (.aload_n 0, 1) := by decide +kernel
theorem d_N_value_11 : decode prog_1_method_7_code 11 = .ok (.iconst (-1), 1) := by decide +kernel
theorem d_N_value_12 : decode prog_1_method_7_code 12 = .ok (.iconst (-1), 1) := by decide +kernel
theorem d_N_value_13 : decode prog_1_method_7_code 13 = .ok (.iload_n 1, 1) := by decide +kernel
theorem d_N_value_14 : decode prog_1_method_7_code 14 = .ok (.iload_n 2, 1) := by decide +kernel
theorem d_N_value_15 : decode prog_1_method_7_code 15 = .ok (.invokevirtual 117, 3) := by decide +kernel
theorem d_N_value_18 : decode prog_1_method_7_code 18 = .ok (.lreturn, 1) := by decide +kernel
theorem d_N_refuseUnknown_0 : decode prog_1_method_32_code 0 = .ok (.aload_n 0, 1) := by decide +kernel
theorem d_N_refuseUnknown_1 : decode prog_1_method_32_code 1 = .ok (.invokevirtual 103, 3) := by decide +kernel
theorem d_N_refuseUnknown_4 : decode prog_1_method_32_code 4 = .ok (.ifCond .ne 13, 3) := by decide +kernel
theorem d_N_refuseUnknown_7 : decode prog_1_method_32_code 7 = .ok (.new 121, 3) := by decide +kernel
theorem d_N_refuseUnknown_10 : decode prog_1_method_32_code 10 = .ok (.dup, 1) := by decide +kernel
theorem d_N_refuseUnknown_11 : decode prog_1_method_32_code 11 = .ok (.ldc 205, 2) := by decide +kernel
theorem d_N_refuseUnknown_13 : decode prog_1_method_32_code 13 = .ok (.invokespecial 125, 3) := by decide +kernel
theorem d_N_refuseUnknown_16 : decode prog_1_method_32_code 16 = .ok (.athrow, 1) := by decide +kernel
theorem d_N_refuseUnknown_17 : decode prog_1_method_32_code 17 = .ok (.iload_n 2, 1) := by decide +kernel
theorem d_N_refuseUnknown_18 : decode prog_1_method_32_code 18 = .ok (.ifCond .lt 8, 3) := by decide +kernel
theorem d_N_refuseUnknown_21 : decode prog_1_method_32_code 21 = .ok (.iload_n 2, 1) := by decide +kernel
theorem d_N_refuseUnknown_22 : decode prog_1_method_32_code 22 = .ok (.iconst 1, 1) := by decide +kernel
theorem d_N_refuseUnknown_23 : decode prog_1_method_32_code 23 = .ok (.if_icmp .le 13, 3) := by decide +kernel
theorem d_N_refuseUnknown_26 : decode prog_1_method_32_code 26 = .ok (.new 121, 3) := by decide +kernel
theorem d_N_refuseUnknown_29 : decode prog_1_method_32_code 29 = .ok (.dup, 1) := by decide +kernel
theorem d_N_refuseUnknown_30 : decode prog_1_method_32_code 30 = .ok (.ldc 207, 2) := by decide +kernel
theorem d_N_refuseUnknown_32 : decode prog_1_method_32_code 32 = .ok (.invokespecial 125, 3) := by decide +kernel
theorem d_N_refuseUnknown_35 : decode prog_1_method_32_code 35 = .ok (.athrow, 1) := by decide +kernel
theorem d_N_refuseUnknown_36 : decode prog_1_method_32_code 36 = .ok (.iload_n 1, 1) := by decide +kernel
theorem d_N_refuseUnknown_37 : decode prog_1_method_32_code 37 = .ok (.ifCond .lt 17, 3) := by decide +kernel
theorem d_N_refuseUnknown_40 : decode prog_1_method_32_code 40 = .ok (.iload_n 1, 1) := by decide +kernel
theorem d_N_refuseUnknown_41 : decode prog_1_method_32_code 41 = .ok (.iconst 1, 1) := by decide +kernel
theorem d_N_refuseUnknown_42 : decode prog_1_method_32_code 42 = .ok (.aload_n 0, 1) := by decide +kernel
theorem d_N_refuseUnknown_43 : decode prog_1_method_32_code 43 = .ok (.iconst 1, 1) := by decide +kernel
theorem d_N_refuseUnknown_44 : decode prog_1_method_32_code 44 = .ok (.invokevirtual 107, 3) := by decide +kernel
theorem d_N_refuseUnknown_47 : decode prog_1_method_32_code 47 = .ok (.invokestatic 172, 3) := by decide +kernel
theorem d_N_refuseUnknown_50 : decode prog_1_method_32_code 50 = .ok (.ishl, 1) := by decide +kernel
theorem d_N_refuseUnknown_51 : decode prog_1_method_32_code 51 = .ok (.if_icmp .lt 13, 3) := by decide +kernel
theorem d_N_refuseUnknown_54 : decode prog_1_method_32_code 54 = .ok (.new 121, 3) := by decide +kernel
theorem d_N_refuseUnknown_57 : decode prog_1_method_32_code 57 = .ok (.dup, 1) := by decide +kernel
theorem d_N_refuseUnknown_58 : decode prog_1_method_32_code 58 = .ok (.ldc 209, 2) := by decide +kernel
theorem d_N_refuseUnknown_60 : decode prog_1_method_32_code 60 = .ok (.invokespecial 125, 3) := by decide +kernel
theorem d_N_refuseUnknown_63 : decode prog_1_method_32_code 63 = .ok (.athrow, 1) := by decide +kernel
theorem d_N_refuseUnknown_64 : decode prog_1_method_32_code 64 = .ok (.return_, 1) := by decide +kernel
theorem d_N_refuseHighPeak_0 : decode prog_1_method_33_code 0 = .ok (.aload_n 0, 1) := by decide +kernel
theorem d_N_refuseHighPeak_1 : decode prog_1_method_33_code 1 = .ok (.invokevirtual 128, 3) := by decide +kernel
theorem d_N_refuseHighPeak_4 : decode prog_1_method_33_code 4 = .ok (.getfield 135, 3) := by decide +kernel
theorem d_N_refuseHighPeak_7 : decode prog_1_method_33_code 7 = .ok (.bipush 12, 2) := by decide +kernel
theorem d_N_refuseHighPeak_9 : decode prog_1_method_33_code 9 = .ok (.if_icmp .le 13, 3) := by decide +kernel
theorem d_N_refuseHighPeak_12 : decode prog_1_method_33_code 12 = .ok (.new 211, 3) := by decide +kernel
theorem d_N_refuseHighPeak_15 : decode prog_1_method_33_code 15 = .ok (.dup, 1) := by decide +kernel
theorem d_N_refuseHighPeak_16 : decode prog_1_method_33_code 16 = .ok (.ldc 213, 2) := by decide +kernel
theorem d_N_refuseHighPeak_18 : decode prog_1_method_33_code 18 = .ok (.invokespecial 215, 3) := by decide +kernel
theorem d_N_refuseHighPeak_21 : decode prog_1_method_33_code 21 = .ok (.athrow, 1) := by decide +kernel
theorem d_N_refuseHighPeak_22 : decode prog_1_method_33_code 22 = .ok (.return_, 1) := by decide +kernel
theorem d_N_contracted_0 : decode prog_1_method_34_code 0 = .ok (.aload_n 0, 1) := by decide +kernel
theorem d_N_contracted_1 : decode prog_1_method_34_code 1 = .ok (.iconst 1, 1) := by decide +kernel
theorem d_N_contracted_2 : decode prog_1_method_34_code 2 = .ok (.invokevirtual 107, 3) := by decide +kernel
theorem d_N_contracted_5 : decode prog_1_method_34_code 5 = .ok (.istore 5, 2) := by decide +kernel
theorem d_N_contracted_7 : decode prog_1_method_34_code 7 = .ok (.iload_n 3, 1) := by decide +kernel
theorem d_N_contracted_8 : decode prog_1_method_34_code 8 = .ok (.iload 5, 2) := by decide +kernel
theorem d_N_contracted_10 : decode prog_1_method_34_code 10 = .ok (.invokestatic 216, 3) := by decide +kernel
theorem d_N_contracted_13 : decode prog_1_method_34_code 13 = .ok (.istore 6, 2) := by decide +kernel
theorem d_N_contracted_15 : decode prog_1_method_34_code 15 = .ok (.aload_n 0, 1) := by decide +kernel
theorem d_N_contracted_16 : decode prog_1_method_34_code 16 = .ok (.invokevirtual 128, 3) := by decide +kernel
theorem d_N_contracted_19 : decode prog_1_method_34_code 19 = .ok (.astore 7, 2) := by decide +kernel
theorem d_N_contracted_21 : decode prog_1_method_34_code 21 = .ok (.aload_n 0, 1) := by decide +kernel
theorem d_N_contracted_22 : decode prog_1_method_34_code 22 = .ok (.getfield 46, 3) := by decide +kernel
theorem d_N_contracted_25 : decode prog_1_method_34_code 25 = .ok (.aload 7, 2) := by decide +kernel
theorem d_N_contracted_27 : decode prog_1_method_34_code 27 = .ok (.aload_n 0, 1) := by decide +kernel
theorem d_N_contracted_28 : decode prog_1_method_34_code 28 = .ok (.getfield 53, 3) := by decide +kernel
theorem d_N_contracted_31 : decode prog_1_method_34_code 31 = .ok (.iload 5, 2) := by decide +kernel
theorem d_N_contracted_33 : decode prog_1_method_34_code 33 = .ok (.invokevirtual 219, 3) := by decide +kernel
theorem d_N_contracted_36 : decode prog_1_method_34_code 36 = .ok (.iconst 0, 1) := by decide +kernel
theorem d_N_contracted_37 : decode prog_1_method_34_code 37 = .ok (.istore 8, 2) := by decide +kernel
theorem d_N_contracted_39 : decode prog_1_method_34_code 39 = .ok (.iload 8, 2) := by decide +kernel
theorem d_N_contracted_41 : decode prog_1_method_34_code 41 = .ok (.aload_n 0, 1) := by decide +kernel
theorem d_N_contracted_42 : decode prog_1_method_34_code 42 = .ok (.getfield 53, 3) := by decide +kernel
theorem d_N_contracted_45 : decode prog_1_method_34_code 45 = .ok (.if_icmp .ge 38, 3) := by decide +kernel
theorem d_N_contracted_48 : decode prog_1_method_34_code 48 = .ok (.aload_n 0, 1) := by decide +kernel
theorem d_N_contracted_49 : decode prog_1_method_34_code 49 = .ok (.getfield 46, 3) := by decide +kernel
theorem d_N_contracted_52 : decode prog_1_method_34_code 52 = .ok (.iload 8, 2) := by decide +kernel
theorem d_N_contracted_54 : decode prog_1_method_34_code 54 = .ok (.aload_n 0, 1) := by decide +kernel
theorem d_N_contracted_55 : decode prog_1_method_34_code 55 = .ok (.getfield 11, 3) := by decide +kernel
theorem d_N_contracted_58 : decode prog_1_method_34_code 58 = .ok (.iload 8, 2) := by decide +kernel
theorem d_N_contracted_60 : decode prog_1_method_34_code 60 = .ok (.aaload, 1) := by decide +kernel
theorem d_N_contracted_61 : decode prog_1_method_34_code 61 = .ok (.iload 6, 2) := by decide +kernel
theorem d_N_contracted_63 : decode prog_1_method_34_code 63 = .ok (.iload 8, 2) := by decide +kernel
theorem d_N_contracted_65 : decode prog_1_method_34_code 65 = .ok (.iload_n 1, 1) := by decide +kernel
theorem d_N_contracted_66 : decode prog_1_method_34_code 66 = .ok (.if_icmp .ne 7, 3) := by decide +kernel
theorem d_N_contracted_69 : decode prog_1_method_34_code 69 = .ok (.iload_n 2, 1) := by decide +kernel
theorem d_N_contracted_70 : decode prog_1_method_34_code 70 = .ok (.goto 4, 3) := by decide +kernel
theorem d_N_contracted_73 : decode prog_1_method_34_code 73 = .ok (.iconst (-1), 1) := by decide +kernel
theorem d_N_contracted_74 : decode prog_1_method_34_code 74 = .ok (.invokevirtual 223, 3) := by decide +kernel
theorem d_N_contracted_77 : decode prog_1_method_34_code 77 = .ok (.iinc 8 1, 3) := by decide +kernel
theorem d_N_contracted_80 : decode prog_1_method_34_code 80 = .ok (.goto (-41), 3) := by decide +kernel
theorem d_N_contracted_83 : decode prog_1_method_34_code 83 = .ok (.aload_n 0, 1) := by decide +kernel
theorem d_N_contracted_84 : decode prog_1_method_34_code 84 = .ok (.getfield 46, 3) := by decide +kernel
theorem d_N_contracted_87 : decode prog_1_method_34_code 87 = .ok (.aload 7, 2) := by decide +kernel
theorem d_N_contracted_89 : decode prog_1_method_34_code 89 = .ok (.aload_n 0, 1) := by decide +kernel
theorem d_N_contracted_90 : decode prog_1_method_34_code 90 = .ok (.getfield 53, 3) := by decide +kernel
theorem d_N_contracted_93 : decode prog_1_method_34_code 93 = .ok (.invokevirtual 227, 3) := by decide +kernel
theorem d_N_contracted_96 : decode prog_1_method_34_code 96 = .ok (.iload 4, 2) := by decide +kernel
theorem d_N_contracted_98 : decode prog_1_method_34_code 98 = .ok (.ifCond .ne 13, 3) := by decide +kernel
theorem d_N_contracted_101 : decode prog_1_method_34_code 101 = .ok (.aload_n 0, 1) := by decide +kernel
theorem d_N_contracted_102 : decode prog_1_method_34_code 102 = .ok (.getfield 46, 3) := by decide +kernel
theorem d_N_contracted_105 : decode prog_1_method_34_code 105 = .ok (.invokevirtual 229, 3) := by decide +kernel
theorem d_N_contracted_108 : decode prog_1_method_34_code 108 = .ok (.goto 10, 3) := by decide +kernel
theorem d_N_contracted_111 : decode prog_1_method_34_code 111 = .ok (.aload_n 0, 1) := by decide +kernel
theorem d_N_contracted_112 : decode prog_1_method_34_code 112 = .ok (.getfield 46, 3) := by decide +kernel
theorem d_N_contracted_115 : decode prog_1_method_34_code 115 = .ok (.invokevirtual 233, 3) := by decide +kernel
theorem d_N_contracted_118 : decode prog_1_method_34_code 118 = .ok (.lreturn, 1) := by decide +kernel
theorem d_N_spread_0 : decode prog_1_method_36_code 0 = .ok (.iconst 0, 1) := by decide +kernel
theorem d_N_spread_1 : decode prog_1_method_36_code 1 = .ok (.istore_n 2, 1) := by decide +kernel
theorem d_N_spread_2 : decode prog_1_method_36_code 2 = .ok (.iconst 0, 1) := by decide +kernel
theorem d_N_spread_3 : decode prog_1_method_36_code 3 = .ok (.istore_n 3, 1) := by decide +kernel
theorem d_N_spread_4 : decode prog_1_method_36_code 4 = .ok (.iconst 0, 1) := by decide +kernel
theorem d_N_spread_5 : decode prog_1_method_36_code 5 = .ok (.istore 4, 2) := by decide +kernel
theorem d_N_spread_7 : decode prog_1_method_36_code 7 = .ok (.iload 4, 2) := by decide +kernel
theorem d_N_spread_9 : decode prog_1_method_36_code 9 = .ok (.bipush 20, 2) := by decide +kernel
theorem d_N_spread_11 : decode prog_1_method_36_code 11 = .ok (.if_icmp .ge 32, 3) := by decide +kernel
theorem d_N_spread_14 : decode prog_1_method_36_code 14 = .ok (.iload 4, 2) := by decide +kernel
theorem d_N_spread_16 : decode prog_1_method_36_code 16 = .ok (.iload_n 1, 1) := by decide +kernel
theorem d_N_spread_17 : decode prog_1_method_36_code 17 = .ok (.invokestatic 195, 3) := by decide +kernel
theorem d_N_spread_20 : decode prog_1_method_36_code 20 = .ok (.ifCond .eq 17, 3) := by decide +kernel
theorem d_N_spread_23 : decode prog_1_method_36_code 23 = .ok (.iload_n 2, 1) := by decide +kernel
theorem d_N_spread_24 : decode prog_1_method_36_code 24 = .ok (.iload_n 0, 1) := by decide +kernel
theorem d_N_spread_25 : decode prog_1_method_36_code 25 = .ok (.iload_n 3, 1) := by decide +kernel
theorem d_N_spread_26 : decode prog_1_method_36_code 26 = .ok (.ishr, 1) := by decide +kernel
theorem d_N_spread_27 : decode prog_1_method_36_code 27 = .ok (.iconst 1, 1) := by decide +kernel
theorem d_N_spread_28 : decode prog_1_method_36_code 28 = .ok (.iand, 1) := by decide +kernel
theorem d_N_spread_29 : decode prog_1_method_36_code 29 = .ok (.iload 4, 2) := by decide +kernel
theorem d_N_spread_31 : decode prog_1_method_36_code 31 = .ok (.ishl, 1) := by decide +kernel
theorem d_N_spread_32 : decode prog_1_method_36_code 32 = .ok (.ior, 1) := by decide +kernel
theorem d_N_spread_33 : decode prog_1_method_36_code 33 = .ok (.istore_n 2, 1) := by decide +kernel
theorem d_N_spread_34 : decode prog_1_method_36_code 34 = .ok (.iinc 3 1, 3) := by decide +kernel
theorem d_N_spread_37 : decode prog_1_method_36_code 37 = .ok (.iinc 4 1, 3) := by decide +kernel
theorem d_N_spread_40 : decode prog_1_method_36_code 40 = .ok (.goto (-33), 3) := by decide +kernel
theorem d_N_spread_43 : decode prog_1_method_36_code 43 = .ok (.iload_n 2, 1) := by decide +kernel
theorem d_N_spread_44 : decode prog_1_method_36_code 44 = .ok (.ireturn, 1) := by decide +kernel
theorem d_N_gather_0 : decode prog_1_method_37_code 0 = .ok (.iconst 0, 1) := by decide +kernel
theorem d_N_gather_1 : decode prog_1_method_37_code 1 = .ok (.istore_n 2, 1) := by decide +kernel
theorem d_N_gather_2 : decode prog_1_method_37_code 2 = .ok (.iconst 0, 1) := by decide +kernel
theorem d_N_gather_3 : decode prog_1_method_37_code 3 = .ok (.istore_n 3, 1) := by decide +kernel
theorem d_N_gather_4 : decode prog_1_method_37_code 4 = .ok (.iconst 0, 1) := by decide +kernel
theorem d_N_gather_5 : decode prog_1_method_37_code 5 = .ok (.istore 4, 2) := by decide +kernel
theorem d_N_gather_7 : decode prog_1_method_37_code 7 = .ok (.iload 4, 2) := by decide +kernel
theorem d_N_gather_9 : decode prog_1_method_37_code 9 = .ok (.bipush 20, 2) := by decide +kernel
theorem d_N_gather_11 : decode prog_1_method_37_code 11 = .ok (.if_icmp .ge 32, 3) := by decide +kernel
theorem d_N_gather_14 : decode prog_1_method_37_code 14 = .ok (.iload 4, 2) := by decide +kernel
theorem d_N_gather_16 : decode prog_1_method_37_code 16 = .ok (.iload_n 1, 1) := by decide +kernel
theorem d_N_gather_17 : decode prog_1_method_37_code 17 = .ok (.invokestatic 195, 3) := by decide +kernel
theorem d_N_gather_20 : decode prog_1_method_37_code 20 = .ok (.ifCond .eq 17, 3) := by decide +kernel
theorem d_N_gather_23 : decode prog_1_method_37_code 23 = .ok (.iload_n 2, 1) := by decide +kernel
theorem d_N_gather_24 : decode prog_1_method_37_code 24 = .ok (.iload_n 0, 1) := by decide +kernel
theorem d_N_gather_25 : decode prog_1_method_37_code 25 = .ok (.iload 4, 2) := by decide +kernel
theorem d_N_gather_27 : decode prog_1_method_37_code 27 = .ok (.ishr, 1) := by decide +kernel
theorem d_N_gather_28 : decode prog_1_method_37_code 28 = .ok (.iconst 1, 1) := by decide +kernel
theorem d_N_gather_29 : decode prog_1_method_37_code 29 = .ok (.iand, 1) := by decide +kernel
theorem d_N_gather_30 : decode prog_1_method_37_code 30 = .ok (.iload_n 3, 1) := by decide +kernel
theorem d_N_gather_31 : decode prog_1_method_37_code 31 = .ok (.ishl, 1) := by decide +kernel
theorem d_N_gather_32 : decode prog_1_method_37_code 32 = .ok (.ior, 1) := by decide +kernel
theorem d_N_gather_33 : decode prog_1_method_37_code 33 = .ok (.istore_n 2, 1) := by decide +kernel
theorem d_N_gather_34 : decode prog_1_method_37_code 34 = .ok (.iinc 3 1, 3) := by decide +kernel
theorem d_N_gather_37 : decode prog_1_method_37_code 37 = .ok (.iinc 4 1, 3) := by decide +kernel
theorem d_N_gather_40 : decode prog_1_method_37_code 40 = .ok (.goto (-33), 3) := by decide +kernel
theorem d_N_gather_43 : decode prog_1_method_37_code 43 = .ok (.iload_n 2, 1) := by decide +kernel
theorem d_N_gather_44 : decode prog_1_method_37_code 44 = .ok (.ireturn, 1) := by decide +kernel
theorem d_N_slope_0 : decode prog_1_method_8_code 0 = .ok (.aload_n 0, 1) := by decide +kernel
theorem d_N_slope_1 : decode prog_1_method_8_code 1 = .ok (.iload_n 3, 1) := by decide +kernel
theorem d_N_slope_2 : decode prog_1_method_8_code 2 = .ok (.iload 4, 2) := by decide +kernel
theorem d_N_slope_4 : decode prog_1_method_8_code 4 = .ok (.invokevirtual 111, 3) := by decide +kernel
theorem d_N_slope_7 : decode prog_1_method_8_code 7 = .ok (.aload_n 0, 1) := by decide +kernel
theorem d_N_slope_8 : decode prog_1_method_8_code 8 = .ok (.iload_n 1, 1) := by decide +kernel
theorem d_N_slope_9 : decode prog_1_method_8_code 9 = .ok (.iload_n 2, 1) := by decide +kernel
theorem d_N_slope_10 : decode prog_1_method_8_code 10 = .ok (.invokevirtual 84, 3) := by decide +kernel
theorem d_N_slope_13 : decode prog_1_method_8_code 13 = .ok (.ifCond .ne 13, 3) := by decide +kernel
theorem d_N_slope_16 : decode prog_1_method_8_code 16 = .ok (.new 121, 3) := by decide +kernel
theorem d_N_slope_19 : decode prog_1_method_8_code 19 = .ok (.dup, 1) := by decide +kernel
theorem d_N_slope_20 : decode prog_1_method_8_code 20 = .ok (.ldc 123, 2) := by decide +kernel
theorem d_N_slope_22 : decode prog_1_method_8_code 22 = .ok (.invokespecial 125, 3) := by decide +kernel
theorem d_N_slope_25 : decode prog_1_method_8_code 25 = .ok (.athrow, 1) := by decide +kernel
theorem d_N_slope_26 : decode prog_1_method_8_code 26 = .ok (.aload_n 0, 1) := by decide +kernel
theorem d_N_slope_27 : decode prog_1_method_8_code 27 = .ok (.invokevirtual 114, 3) := by decide +kernel
theorem d_N_slope_30 : decode prog_1_method_8_code 30 = .ok (.aload_n 0, 1) := by decide +kernel
theorem d_N_slope_31 : decode prog_1_method_8_code 31 = .ok (.iload_n 1, 1) := by decide +kernel
theorem d_N_slope_32 : decode prog_1_method_8_code 32 = .ok (.iload_n 2, 1) := by decide +kernel
theorem d_N_slope_33 : decode prog_1_method_8_code 33 = .ok (.iload_n 3, 1) := by decide +kernel
theorem d_N_slope_34 : decode prog_1_method_8_code 34 = .ok (.iload 4, 2) := by decide +kernel
theorem d_N_slope_36 : decode prog_1_method_8_code 36 = .ok (.invokevirtual 117, 3) := by decide +kernel
theorem d_N_slope_39 : decode prog_1_method_8_code 39 = .ok (.lreturn, 1) := by decide +kernel
