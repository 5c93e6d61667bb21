-- DECODE rows, laid by program
theorem d_T_init_0 : decode prog_5_method_1_code 0 = .ok (.aload_n 0, 1) := by decide +kernel
theorem d_T_init_1 : decode prog_5_method_1_code 1 = .ok (.invokespecial 3, 3) := by decide +kernel
theorem d_T_init_4 : decode prog_5_method_1_code 4 = .ok (.aload_n 0, 1) := by decide +kernel
theorem d_T_init_5 : decode prog_5_method_1_code 5 = .ok (.bipush 6, 2) := by decide +kernel
theorem d_T_init_7 : decode prog_5_method_1_code 7 = .ok (.newarray .int, 2) := by decide +kernel
theorem d_T_init_9 : decode prog_5_method_1_code 9 = .ok (.putfield 9, 3) := by decide +kernel
theorem d_T_init_12 : decode prog_5_method_1_code 12 = .ok (.aload_n 0, 1) := by decide +kernel
theorem d_T_init_13 : decode prog_5_method_1_code 13 = .ok (.bipush 64, 2) := by decide +kernel
theorem d_T_init_15 : decode prog_5_method_1_code 15 = .ok (.newarray .int, 2) := by decide +kernel
theorem d_T_init_17 : decode prog_5_method_1_code 17 = .ok (.putfield 15, 3) := by decide +kernel
theorem d_T_init_20 : decode prog_5_method_1_code 20 = .ok (.aload_n 0, 1) := by decide +kernel
theorem d_T_init_21 : decode prog_5_method_1_code 21 = .ok (.bipush 64, 2) := by decide +kernel
theorem d_T_init_23 : decode prog_5_method_1_code 23 = .ok (.newarray .int, 2) := by decide +kernel
theorem d_T_init_25 : decode prog_5_method_1_code 25 = .ok (.putfield 18, 3) := by decide +kernel
theorem d_T_init_28 : decode prog_5_method_1_code 28 = .ok (.return_, 1) := by decide +kernel
theorem d_O_init_0 : decode prog_4_method_1_code 0 = .ok (.aload_n 0, 1) := by decide +kernel
theorem d_O_init_1 : decode prog_4_method_1_code 1 = .ok (.invokespecial 3, 3) := by decide +kernel
theorem d_O_init_4 : decode prog_4_method_1_code 4 = .ok (.aload_n 0, 1) := by decide +kernel
theorem d_O_init_5 : decode prog_4_method_1_code 5 = .ok (.sipush 1024, 3) := by decide +kernel
theorem d_O_init_8 : decode prog_4_method_1_code 8 = .ok (.newarray .int, 2) := by decide +kernel
theorem d_O_init_10 : decode prog_4_method_1_code 10 = .ok (.putfield 9, 3) := by decide +kernel
theorem d_O_init_13 : decode prog_4_method_1_code 13 = .ok (.aload_n 0, 1) := by decide +kernel
theorem d_O_init_14 : decode prog_4_method_1_code 14 = .ok (.sipush 1024, 3) := by decide +kernel
theorem d_O_init_17 : decode prog_4_method_1_code 17 = .ok (.newarray .int, 2) := by decide +kernel
theorem d_O_init_19 : decode prog_4_method_1_code 19 = .ok (.putfield 15, 3) := by decide +kernel
theorem d_O_init_22 : decode prog_4_method_1_code 22 = .ok (.aload_n 0, 1) := by decide +kernel
theorem d_O_init_23 : decode prog_4_method_1_code 23 = .ok (.sipush 1024, 3) := by decide +kernel
theorem d_O_init_26 : decode prog_4_method_1_code 26 = .ok (.newarray .int, 2) := by decide +kernel
theorem d_O_init_28 : decode prog_4_method_1_code 28 = .ok (.putfield 18, 3) := by decide +kernel
theorem d_O_init_31 : decode prog_4_method_1_code 31 = .ok (.aload_n 0, 1) := by decide +kernel
theorem d_O_init_32 : decode prog_4_method_1_code 32 = .ok (.bipush 10, 2) := by decide +kernel
theorem d_O_init_34 : decode prog_4_method_1_code 34 = .ok (.newarray .int, 2) := by decide +kernel
theorem d_O_init_36 : decode prog_4_method_1_code 36 = .ok (.putfield 21, 3) := by decide +kernel
theorem d_O_init_39 : decode prog_4_method_1_code 39 = .ok (.aload_n 0, 1) := by decide +kernel
theorem d_O_init_40 : decode prog_4_method_1_code 40 = .ok (.bipush 11, 2) := by decide +kernel
theorem d_O_init_42 : decode prog_4_method_1_code 42 = .ok (.newarray .int, 2) := by decide +kernel
theorem d_O_init_44 : decode prog_4_method_1_code 44 = .ok (.putfield 24, 3) := by decide +kernel
theorem d_O_init_47 : decode prog_4_method_1_code 47 = .ok (.return_, 1) := by decide +kernel
theorem d_G_init_0 : decode prog_3_method_1_code 0 = .ok (.aload_n 0, 1) := by decide +kernel
theorem d_G_init_1 : decode prog_3_method_1_code 1 = .ok (.invokespecial 3, 3) := by decide +kernel
theorem d_G_init_4 : decode prog_3_method_1_code 4 = .ok (.aload_n 0, 1) := by decide +kernel
theorem d_G_init_5 : decode prog_3_method_1_code 5 = .ok (.bipush 20, 2) := by decide +kernel
theorem d_G_init_7 : decode prog_3_method_1_code 7 = .ok (.newarray .int, 2) := by decide +kernel
theorem d_G_init_9 : decode prog_3_method_1_code 9 = .ok (.putfield 9, 3) := by decide +kernel
theorem d_G_init_12 : decode prog_3_method_1_code 12 = .ok (.aload_n 0, 1) := by decide +kernel
theorem d_G_init_13 : decode prog_3_method_1_code 13 = .ok (.bipush 20, 2) := by decide +kernel
theorem d_G_init_15 : decode prog_3_method_1_code 15 = .ok (.newarray .int, 2) := by decide +kernel
theorem d_G_init_17 : decode prog_3_method_1_code 17 = .ok (.putfield 15, 3) := by decide +kernel
theorem d_G_init_20 : decode prog_3_method_1_code 20 = .ok (.aload_n 0, 1) := by decide +kernel
theorem d_G_init_21 : decode prog_3_method_1_code 21 = .ok (.bipush 10, 2) := by decide +kernel
theorem d_G_init_23 : decode prog_3_method_1_code 23 = .ok (.newarray .int, 2) := by decide +kernel
theorem d_G_init_25 : decode prog_3_method_1_code 25 = .ok (.putfield 18, 3) := by decide +kernel
theorem d_G_init_28 : decode prog_3_method_1_code 28 = .ok (.aload_n 0, 1) := by decide +kernel
theorem d_G_init_29 : decode prog_3_method_1_code 29 = .ok (.bipush 10, 2) := by decide +kernel
theorem d_G_init_31 : decode prog_3_method_1_code 31 = .ok (.newarray .int, 2) := by decide +kernel
theorem d_G_init_33 : decode prog_3_method_1_code 33 = .ok (.putfield 21, 3) := by decide +kernel
theorem d_G_init_36 : decode prog_3_method_1_code 36 = .ok (.return_, 1) := by decide +kernel
theorem d_C_init_0 : decode prog_2_method_1_code 0 = .ok (.aload_n 0, 1) := by decide +kernel
theorem d_C_init_1 : decode prog_2_method_1_code 1 = .ok (.invokespecial 3, 3) := by decide +kernel
theorem d_C_init_4 : decode prog_2_method_1_code 4 = .ok (.aload_n 0, 1) := by decide +kernel
theorem d_C_init_5 : decode prog_2_method_1_code 5 = .ok (.bipush 10, 2) := by decide +kernel
theorem d_C_init_7 : decode prog_2_method_1_code 7 = .ok (.newarray .int, 2) := by decide +kernel
theorem d_C_init_9 : decode prog_2_method_1_code 9 = .ok (.putfield 9, 3) := by decide +kernel
theorem d_C_init_12 : decode prog_2_method_1_code 12 = .ok (.aload_n 0, 1) := by decide +kernel
theorem d_C_init_13 : decode prog_2_method_1_code 13 = .ok (.bipush 10, 2) := by decide +kernel
theorem d_C_init_15 : decode prog_2_method_1_code 15 = .ok (.newarray .int, 2) := by decide +kernel
theorem d_C_init_17 : decode prog_2_method_1_code 17 = .ok (.putfield 15, 3) := by decide +kernel
theorem d_C_init_20 : decode prog_2_method_1_code 20 = .ok (.aload_n 0, 1) := by decide +kernel
theorem d_C_init_21 : decode prog_2_method_1_code 21 = .ok (.bipush 21, 2) := by decide +kernel
theorem d_C_init_23 : decode prog_2_method_1_code 23 = .ok (.newarray .int, 2) := by decide +kernel
theorem d_C_init_25 : decode prog_2_method_1_code 25 = .ok (.putfield 18, 3) := by decide +kernel
theorem d_C_init_28 : decode prog_2_method_1_code 28 = .ok (.aload_n 0, 1) := by decide +kernel
theorem d_C_init_29 : decode prog_2_method_1_code 29 = .ok (.bipush 21, 2) := by decide +kernel
theorem d_C_init_31 : decode prog_2_method_1_code 31 = .ok (.newarray .int, 2) := by decide +kernel
theorem d_C_init_33 : decode prog_2_method_1_code 33 = .ok (.putfield 21, 3) := by decide +kernel
theorem d_C_init_36 : decode prog_2_method_1_code 36 = .ok (.aload_n 0, 1) := by decide +kernel
theorem d_C_init_37 : decode prog_2_method_1_code 37 = .ok (.bipush 21, 2) := by decide +kernel
theorem d_C_init_39 : decode prog_2_method_1_code 39 = .ok (.newarray .int, 2) := by decide +kernel
theorem d_C_init_41 : decode prog_2_method_1_code 41 = .ok (.putfield 24, 3) := by decide +kernel
theorem d_C_init_44 : decode prog_2_method_1_code 44 = .ok (.aload_n 0, 1) := by decide +kernel
theorem d_C_init_45 : decode prog_2_method_1_code 45 = .ok (.bipush 64, 2) := by decide +kernel
theorem d_C_init_47 : decode prog_2_method_1_code 47 = .ok (.newarray .long, 2) := by decide +kernel
theorem d_C_init_49 : decode prog_2_method_1_code 49 = .ok (.putfield 27, 3) := by decide +kernel
theorem d_C_init_52 : decode prog_2_method_1_code 52 = .ok (.aload_n 0, 1) := by decide +kernel
theorem d_C_init_53 : decode prog_2_method_1_code 53 = .ok (.bipush 64, 2) := by decide +kernel
theorem d_C_init_55 : decode prog_2_method_1_code 55 = .ok (.newarray .long, 2) := by decide +kernel
theorem d_C_init_57 : decode prog_2_method_1_code 57 = .ok (.putfield 31, 3) := by decide +kernel
theorem d_C_init_60 : decode prog_2_method_1_code 60 = .ok (.return_, 1) := by decide +kernel
theorem d_T_makeNew_0 : decode prog_5_method_2_code 0 = .ok (.aload_n 0, 1) := by decide +kernel
theorem d_T_makeNew_1 : decode prog_5_method_2_code 1 = .ok (.iload_n 1, 1) := by decide +kernel
theorem d_T_makeNew_2 : decode prog_5_method_2_code 2 = .ok (.putfield 21, 3) := by decide +kernel
theorem d_T_makeNew_5 : decode prog_5_method_2_code 5 = .ok (.aload_n 0, 1) := by decide +kernel
theorem d_T_makeNew_6 : decode prog_5_method_2_code 6 = .ok (.iconst 0, 1) := by decide +kernel
theorem d_T_makeNew_7 : decode prog_5_method_2_code 7 = .ok (.putfield 25, 3) := by decide +kernel
theorem d_T_makeNew_10 : decode prog_5_method_2_code 10 = .ok (.aload_n 0, 1) := by decide +kernel
theorem d_T_makeNew_11 : decode prog_5_method_2_code 11 = .ok (.getfield 9, 3) := by decide +kernel
theorem d_T_makeNew_14 : decode prog_5_method_2_code 14 = .ok (.iconst (-1), 1) := by decide +kernel
theorem d_T_makeNew_15 : decode prog_5_method_2_code 15 = .ok (.invokestatic 28, 3) := by decide +kernel
theorem d_T_makeNew_18 : decode prog_5_method_2_code 18 = .ok (.aload_n 0, 1) := by decide +kernel
theorem d_T_makeNew_19 : decode prog_5_method_2_code 19 = .ok (.getfield 15, 3) := by decide +kernel
theorem d_T_makeNew_22 : decode prog_5_method_2_code 22 = .ok (.iconst 0, 1) := by decide +kernel
theorem d_T_makeNew_23 : decode prog_5_method_2_code 23 = .ok (.invokestatic 28, 3) := by decide +kernel
theorem d_T_makeNew_26 : decode prog_5_method_2_code 26 = .ok (.aload_n 0, 1) := by decide +kernel
theorem d_T_makeNew_27 : decode prog_5_method_2_code 27 = .ok (.getfield 18, 3) := by decide +kernel
theorem d_T_makeNew_30 : decode prog_5_method_2_code 30 = .ok (.iconst 0, 1) := by decide +kernel
theorem d_T_makeNew_31 : decode prog_5_method_2_code 31 = .ok (.invokestatic 28, 3) := by decide +kernel
theorem d_T_makeNew_34 : decode prog_5_method_2_code 34 = .ok (.return_, 1) := by decide +kernel
theorem d_T_setName_0 : decode prog_5_method_3_code 0 = .ok (.aload_n 0, 1) := by decide +kernel
theorem d_T_setName_1 : decode prog_5_method_3_code 1 = .ok (.getfield 9, 3) := by decide +kernel
theorem d_T_setName_4 : decode prog_5_method_3_code 4 = .ok (.iload_n 1, 1) := by decide +kernel
theorem d_T_setName_5 : decode prog_5_method_3_code 5 = .ok (.iload_n 2, 1) := by decide +kernel
theorem d_T_setName_6 : decode prog_5_method_3_code 6 = .ok (.iastore, 1) := by decide +kernel
theorem d_T_setName_7 : decode prog_5_method_3_code 7 = .ok (.aload_n 0, 1) := by decide +kernel
theorem d_T_setName_8 : decode prog_5_method_3_code 8 = .ok (.iconst 0, 1) := by decide +kernel
theorem d_T_setName_9 : decode prog_5_method_3_code 9 = .ok (.putfield 25, 3) := by decide +kernel
theorem d_T_setName_12 : decode prog_5_method_3_code 12 = .ok (.iconst 0, 1) := by decide +kernel
theorem d_T_setName_13 : decode prog_5_method_3_code 13 = .ok (.istore_n 3, 1) := by decide +kernel
theorem d_T_setName_14 : decode prog_5_method_3_code 14 = .ok (.iload_n 3, 1) := by decide +kernel
theorem d_T_setName_15 : decode prog_5_method_3_code 15 = .ok (.aload_n 0, 1) := by decide +kernel
theorem d_T_setName_16 : decode prog_5_method_3_code 16 = .ok (.getfield 21, 3) := by decide +kernel
theorem d_T_setName_19 : decode prog_5_method_3_code 19 = .ok (.if_icmp .ge 36, 3) := by decide +kernel
theorem d_T_setName_22 : decode prog_5_method_3_code 22 = .ok (.aload_n 0, 1) := by decide +kernel
theorem d_T_setName_23 : decode prog_5_method_3_code 23 = .ok (.getfield 9, 3) := by decide +kernel
theorem d_T_setName_26 : decode prog_5_method_3_code 26 = .ok (.iload_n 3, 1) := by decide +kernel
theorem d_T_setName_27 : decode prog_5_method_3_code 27 = .ok (.iaload, 1) := by decide +kernel
theorem d_T_setName_28 : decode prog_5_method_3_code 28 = .ok (.iconst (-1), 1) := by decide +kernel
theorem d_T_setName_29 : decode prog_5_method_3_code 29 = .ok (.if_icmp .eq 20, 3) := by decide +kernel
theorem d_T_setName_32 : decode prog_5_method_3_code 32 = .ok (.aload_n 0, 1) := by decide +kernel
theorem d_T_setName_33 : decode prog_5_method_3_code 33 = .ok (.dup, 1) := by decide +kernel
theorem d_T_setName_34 : decode prog_5_method_3_code 34 = .ok (.getfield 25, 3) := by decide +kernel
theorem d_T_setName_37 : decode prog_5_method_3_code 37 = .ok (.iconst 1, 1) := by decide +kernel
theorem d_T_setName_38 : decode prog_5_method_3_code 38 = .ok (.aload_n 0, 1) := by decide +kernel
theorem d_T_setName_39 : decode prog_5_method_3_code 39 = .ok (.getfield 9, 3) := by decide +kernel
theorem d_T_setName_42 : decode prog_5_method_3_code 42 = .ok (.iload_n 3, 1) := by decide +kernel
theorem d_T_setName_43 : decode prog_5_method_3_code 43 = .ok (.iaload, 1) := by decide +kernel
theorem d_T_setName_44 : decode prog_5_method_3_code 44 = .ok (.ishl, 1) := by decide +kernel
theorem d_T_setName_45 : decode prog_5_method_3_code 45 = .ok (.ixor, 1) := by decide +kernel
theorem d_T_setName_46 : decode prog_5_method_3_code 46 = .ok (.putfield 25, 3) := by decide +kernel
theorem d_T_setName_49 : decode prog_5_method_3_code 49 = .ok (.iinc 3 1, 3) := by decide +kernel
theorem d_T_setName_52 : decode prog_5_method_3_code 52 = .ok (.goto (-38), 3) := by decide +kernel
theorem d_T_setName_55 : decode prog_5_method_3_code 55 = .ok (.return_, 1) := by decide +kernel
theorem d_G_joinAll_0 : decode prog_3_method_2_code 0 = .ok (.aload_n 0, 1) := by decide +kernel
theorem d_G_joinAll_1 : decode prog_3_method_2_code 1 = .ok (.iconst 0, 1) := by decide +kernel
theorem d_G_joinAll_2 : decode prog_3_method_2_code 2 = .ok (.putfield 24, 3) := by decide +kernel
theorem d_G_joinAll_5 : decode prog_3_method_2_code 5 = .ok (.aload_n 0, 1) := by decide +kernel
theorem d_G_joinAll_6 : decode prog_3_method_2_code 6 = .ok (.iconst 0, 1) := by decide +kernel
theorem d_G_joinAll_7 : decode prog_3_method_2_code 7 = .ok (.putfield 28, 3) := by decide +kernel
theorem d_G_joinAll_10 : decode prog_3_method_2_code 10 = .ok (.iconst 0, 1) := by decide +kernel
theorem d_G_joinAll_11 : decode prog_3_method_2_code 11 = .ok (.istore_n 3, 1) := by decide +kernel
theorem d_G_joinAll_12 : decode prog_3_method_2_code 12 = .ok (.iload_n 3, 1) := by decide +kernel
theorem d_G_joinAll_13 : decode prog_3_method_2_code 13 = .ok (.iload_n 2, 1) := by decide +kernel
theorem d_G_joinAll_14 : decode prog_3_method_2_code 14 = .ok (.if_icmp .ge 17, 3) := by decide +kernel
theorem d_G_joinAll_17 : decode prog_3_method_2_code 17 = .ok (.aload_n 0, 1) := by decide +kernel
theorem d_G_joinAll_18 : decode prog_3_method_2_code 18 = .ok (.iload_n 3, 1) := by decide +kernel
theorem d_G_joinAll_19 : decode prog_3_method_2_code 19 = .ok (.aload_n 1, 1) := by decide +kernel
theorem d_G_joinAll_20 : decode prog_3_method_2_code 20 = .ok (.iload_n 3, 1) := by decide +kernel
theorem d_G_joinAll_21 : decode prog_3_method_2_code 21 = .ok (.iaload, 1) := by decide +kernel
theorem d_G_joinAll_22 : decode prog_3_method_2_code 22 = .ok (.invokevirtual 31, 3) := by decide +kernel
theorem d_G_joinAll_25 : decode prog_3_method_2_code 25 = .ok (.iinc 3 1, 3) := by decide +kernel
theorem d_G_joinAll_28 : decode prog_3_method_2_code 28 = .ok (.goto (-16), 3) := by decide +kernel
theorem d_G_joinAll_31 : decode prog_3_method_2_code 31 = .ok (.iconst 0, 1) := by decide +kernel
theorem d_G_joinAll_32 : decode prog_3_method_2_code 32 = .ok (.istore_n 3, 1) := by decide +kernel
theorem d_G_joinAll_33 : decode prog_3_method_2_code 33 = .ok (.iload_n 3, 1) := by decide +kernel
theorem d_G_joinAll_34 : decode prog_3_method_2_code 34 = .ok (.iload_n 2, 1) := by decide +kernel
theorem d_G_joinAll_35 : decode prog_3_method_2_code 35 = .ok (.iconst 1, 1) := by decide +kernel
theorem d_G_joinAll_36 : decode prog_3_method_2_code 36 = .ok (.isub, 1) := by decide +kernel
theorem d_G_joinAll_37 : decode prog_3_method_2_code 37 = .ok (.if_icmp .ge 102, 3) := by decide +kernel
theorem d_G_joinAll_40 : decode prog_3_method_2_code 40 = .ok (.aload_n 0, 1) := by decide +kernel
theorem d_G_joinAll_41 : decode prog_3_method_2_code 41 = .ok (.iload_n 3, 1) := by decide +kernel
theorem d_G_joinAll_42 : decode prog_3_method_2_code 42 = .ok (.iload_n 2, 1) := by decide +kernel
theorem d_G_joinAll_43 : decode prog_3_method_2_code 43 = .ok (.iload_n 3, 1) := by decide +kernel
theorem d_G_joinAll_44 : decode prog_3_method_2_code 44 = .ok (.iadd, 1) := by decide +kernel
theorem d_G_joinAll_45 : decode prog_3_method_2_code 45 = .ok (.invokevirtual 35, 3) := by decide +kernel
theorem d_G_joinAll_48 : decode prog_3_method_2_code 48 = .ok (.aload_n 0, 1) := by decide +kernel
theorem d_G_joinAll_49 : decode prog_3_method_2_code 49 = .ok (.getfield 18, 3) := by decide +kernel
theorem d_G_joinAll_52 : decode prog_3_method_2_code 52 = .ok (.iload_n 3, 1) := by decide +kernel
theorem d_G_joinAll_53 : decode prog_3_method_2_code 53 = .ok (.iaload, 1) := by decide +kernel
theorem d_G_joinAll_54 : decode prog_3_method_2_code 54 = .ok (.istore 4, 2) := by decide +kernel
theorem d_G_joinAll_56 : decode prog_3_method_2_code 56 = .ok (.aload_n 0, 1) := by decide +kernel
theorem d_G_joinAll_57 : decode prog_3_method_2_code 57 = .ok (.getfield 21, 3) := by decide +kernel
theorem d_G_joinAll_60 : decode prog_3_method_2_code 60 = .ok (.iload_n 3, 1) := by decide +kernel
theorem d_G_joinAll_61 : decode prog_3_method_2_code 61 = .ok (.iaload, 1) := by decide +kernel
theorem d_G_joinAll_62 : decode prog_3_method_2_code 62 = .ok (.istore 5, 2) := by decide +kernel
theorem d_G_joinAll_64 : decode prog_3_method_2_code 64 = .ok (.aload_n 0, 1) := by decide +kernel
theorem d_G_joinAll_65 : decode prog_3_method_2_code 65 = .ok (.dup, 1) := by decide +kernel
theorem d_G_joinAll_66 : decode prog_3_method_2_code 66 = .ok (.getfield 28, 3) := by decide +kernel
theorem d_G_joinAll_69 : decode prog_3_method_2_code 69 = .ok (.iconst 1, 1) := by decide +kernel
theorem d_G_joinAll_70 : decode prog_3_method_2_code 70 = .ok (.aload_n 0, 1) := by decide +kernel
theorem d_G_joinAll_71 : decode prog_3_method_2_code 71 = .ok (.getfield 9, 3) := by decide +kernel
theorem d_G_joinAll_74 : decode prog_3_method_2_code 74 = .ok (.iload 4, 2) := by decide +kernel
theorem d_G_joinAll_76 : decode prog_3_method_2_code 76 = .ok (.iaload, 1) := by decide +kernel
theorem d_G_joinAll_77 : decode prog_3_method_2_code 77 = .ok (.aload_n 0, 1) := by decide +kernel
theorem d_G_joinAll_78 : decode prog_3_method_2_code 78 = .ok (.getfield 9, 3) := by decide +kernel
theorem d_G_joinAll_81 : decode prog_3_method_2_code 81 = .ok (.iload 5, 2) := by decide +kernel
theorem d_G_joinAll_83 : decode prog_3_method_2_code 83 = .ok (.iaload, 1) := by decide +kernel
theorem d_G_joinAll_84 : decode prog_3_method_2_code 84 = .ok (.ior, 1) := by decide +kernel
theorem d_G_joinAll_85 : decode prog_3_method_2_code 85 = .ok (.invokestatic 38, 3) := by decide +kernel
theorem d_G_joinAll_88 : decode prog_3_method_2_code 88 = .ok (.ishl, 1) := by decide +kernel
theorem d_G_joinAll_89 : decode prog_3_method_2_code 89 = .ok (.iadd, 1) := by decide +kernel
theorem d_G_joinAll_90 : decode prog_3_method_2_code 90 = .ok (.putfield 28, 3) := by decide +kernel
theorem d_G_joinAll_93 : decode prog_3_method_2_code 93 = .ok (.aload_n 0, 1) := by decide +kernel
theorem d_G_joinAll_94 : decode prog_3_method_2_code 94 = .ok (.iload_n 2, 1) := by decide +kernel
theorem d_G_joinAll_95 : decode prog_3_method_2_code 95 = .ok (.iload_n 3, 1) := by decide +kernel
theorem d_G_joinAll_96 : decode prog_3_method_2_code 96 = .ok (.iadd, 1) := by decide +kernel
theorem d_G_joinAll_97 : decode prog_3_method_2_code 97 = .ok (.aload_n 0, 1) := by decide +kernel
theorem d_G_joinAll_98 : decode prog_3_method_2_code 98 = .ok (.getfield 9, 3) := by decide +kernel
theorem d_G_joinAll_101 : decode prog_3_method_2_code 101 = .ok (.iload 4, 2) := by decide +kernel
theorem d_G_joinAll_103 : decode prog_3_method_2_code 103 = .ok (.iaload, 1) := by decide +kernel
theorem d_G_joinAll_104 : decode prog_3_method_2_code 104 = .ok (.aload_n 0, 1) := by decide +kernel
theorem d_G_joinAll_105 : decode prog_3_method_2_code 105 = .ok (.getfield 9, 3) := by decide +kernel
theorem d_G_joinAll_108 : decode prog_3_method_2_code 108 = .ok (.iload 5, 2) := by decide +kernel
theorem d_G_joinAll_110 : decode prog_3_method_2_code 110 = .ok (.iaload, 1) := by decide +kernel
theorem d_G_joinAll_111 : decode prog_3_method_2_code 111 = .ok (.ixor, 1) := by decide +kernel
theorem d_G_joinAll_112 : decode prog_3_method_2_code 112 = .ok (.invokevirtual 31, 3) := by decide +kernel
theorem d_G_joinAll_115 : decode prog_3_method_2_code 115 = .ok (.aload_n 0, 1) := by decide +kernel
theorem d_G_joinAll_116 : decode prog_3_method_2_code 116 = .ok (.dup, 1) := by decide +kernel
theorem d_G_joinAll_117 : decode prog_3_method_2_code 117 = .ok (.getfield 24, 3) := by decide +kernel
theorem d_G_joinAll_120 : decode prog_3_method_2_code 120 = .ok (.iconst 1, 1) := by decide +kernel
theorem d_G_joinAll_121 : decode prog_3_method_2_code 121 = .ok (.iload 4, 2) := by decide +kernel
theorem d_G_joinAll_123 : decode prog_3_method_2_code 123 = .ok (.ishl, 1) := by decide +kernel
theorem d_G_joinAll_124 : decode prog_3_method_2_code 124 = .ok (.iconst 1, 1) := by decide +kernel
theorem d_G_joinAll_125 : decode prog_3_method_2_code 125 = .ok (.iload 5, 2) := by decide +kernel
theorem d_G_joinAll_127 : decode prog_3_method_2_code 127 = .ok (.ishl, 1) := by decide +kernel
theorem d_G_joinAll_128 : decode prog_3_method_2_code 128 = .ok (.ior, 1) := by decide +kernel
theorem d_G_joinAll_129 : decode prog_3_method_2_code 129 = .ok (.ior, 1) := by decide +kernel
theorem d_G_joinAll_130 : decode prog_3_method_2_code 130 = .ok (.putfield 24, 3) := by decide +kernel
theorem d_G_joinAll_133 : decode prog_3_method_2_code 133 = .ok (.iinc 3 1, 3) := by decide +kernel
theorem d_G_joinAll_136 : decode prog_3_method_2_code 136 = .ok (.goto (-103), 3) := by decide +kernel
theorem d_G_joinAll_139 : decode prog_3_method_2_code 139 = .ok (.return_, 1) := by decide +kernel
theorem d_G_addThing_0 : decode prog_3_method_3_code 0 = .ok (.aload_n 0, 1) := by decide +kernel
theorem d_G_addThing_1 : decode prog_3_method_3_code 1 = .ok (.getfield 9, 3) := by decide +kernel
theorem d_G_addThing_4 : decode prog_3_method_3_code 4 = .ok (.iload_n 1, 1) := by decide +kernel
theorem d_G_addThing_5 : decode prog_3_method_3_code 5 = .ok (.iload_n 2, 1) := by decide +kernel
theorem d_G_addThing_6 : decode prog_3_method_3_code 6 = .ok (.iastore, 1) := by decide +kernel
theorem d_G_addThing_7 : decode prog_3_method_3_code 7 = .ok (.aload_n 0, 1) := by decide +kernel
theorem d_G_addThing_8 : decode prog_3_method_3_code 8 = .ok (.getfield 15, 3) := by decide +kernel
theorem d_G_addThing_11 : decode prog_3_method_3_code 11 = .ok (.iload_n 1, 1) := by decide +kernel
theorem d_G_addThing_12 : decode prog_3_method_3_code 12 = .ok (.iconst 1, 1) := by decide +kernel
theorem d_G_addThing_13 : decode prog_3_method_3_code 13 = .ok (.iload_n 2, 1) := by decide +kernel
theorem d_G_addThing_14 : decode prog_3_method_3_code 14 = .ok (.invokestatic 38, 3) := by decide +kernel
theorem d_G_addThing_17 : decode prog_3_method_3_code 17 = .ok (.ishl, 1) := by decide +kernel
theorem d_G_addThing_18 : decode prog_3_method_3_code 18 = .ok (.iastore, 1) := by decide +kernel
theorem d_G_addThing_19 : decode prog_3_method_3_code 19 = .ok (.return_, 1) := by decide +kernel
theorem d_G_choose_0 : decode prog_3_method_4_code 0 = .ok (.ldc 44, 2) := by decide +kernel
theorem d_G_choose_2 : decode prog_3_method_4_code 2 = .ok (.istore_n 3, 1) := by decide +kernel
theorem d_G_choose_3 : decode prog_3_method_4_code 3 = .ok (.iconst 0, 1) := by decide +kernel
theorem d_G_choose_4 : decode prog_3_method_4_code 4 = .ok (.istore 4, 2) := by decide +kernel
theorem d_G_choose_6 : decode prog_3_method_4_code 6 = .ok (.iload 4, 2) := by decide +kernel
theorem d_G_choose_8 : decode prog_3_method_4_code 8 = .ok (.iload_n 2, 1) := by decide +kernel
theorem d_G_choose_9 : decode prog_3_method_4_code 9 = .ok (.if_icmp .ge 118, 3) := by decide +kernel
theorem d_G_choose_12 : decode prog_3_method_4_code 12 = .ok (.iload 4, 2) := by decide +kernel
theorem d_G_choose_14 : decode prog_3_method_4_code 14 = .ok (.iconst 1, 1) := by decide +kernel
theorem d_G_choose_15 : decode prog_3_method_4_code 15 = .ok (.iadd, 1) := by decide +kernel
theorem d_G_choose_16 : decode prog_3_method_4_code 16 = .ok (.istore 5, 2) := by decide +kernel
theorem d_G_choose_18 : decode prog_3_method_4_code 18 = .ok (.iload 5, 2) := by decide +kernel
theorem d_G_choose_20 : decode prog_3_method_4_code 20 = .ok (.iload_n 2, 1) := by decide +kernel
theorem d_G_choose_21 : decode prog_3_method_4_code 21 = .ok (.if_icmp .ge 100, 3) := by decide +kernel
theorem d_G_choose_24 : decode prog_3_method_4_code 24 = .ok (.iload 4, 2) := by decide +kernel
theorem d_G_choose_26 : decode prog_3_method_4_code 26 = .ok (.aload_n 0, 1) := by decide +kernel
theorem d_G_choose_27 : decode prog_3_method_4_code 27 = .ok (.getfield 24, 3) := by decide +kernel
theorem d_G_choose_30 : decode prog_3_method_4_code 30 = .ok (.invokestatic 45, 3) := by decide +kernel
theorem d_G_choose_33 : decode prog_3_method_4_code 33 = .ok (.ifCond .ne 88, 3) := by decide +kernel
theorem d_G_choose_36 : decode prog_3_method_4_code 36 = .ok (.iconst 1, 1) := by decide +kernel
theorem d_G_choose_37 : decode prog_3_method_4_code 37 = .ok (.aload_n 0, 1) := by decide +kernel
theorem d_G_choose_38 : decode prog_3_method_4_code 38 = .ok (.getfield 9, 3) := by decide +kernel
theorem d_G_choose_41 : decode prog_3_method_4_code 41 = .ok (.iload 4, 2) := by decide +kernel
theorem d_G_choose_43 : decode prog_3_method_4_code 43 = .ok (.iaload, 1) := by decide +kernel
theorem d_G_choose_44 : decode prog_3_method_4_code 44 = .ok (.aload_n 0, 1) := by decide +kernel
theorem d_G_choose_45 : decode prog_3_method_4_code 45 = .ok (.getfield 9, 3) := by decide +kernel
theorem d_G_choose_48 : decode prog_3_method_4_code 48 = .ok (.iload 5, 2) := by decide +kernel
theorem d_G_choose_50 : decode prog_3_method_4_code 50 = .ok (.iaload, 1) := by decide +kernel
theorem d_G_choose_51 : decode prog_3_method_4_code 51 = .ok (.ixor, 1) := by decide +kernel
theorem d_G_choose_52 : decode prog_3_method_4_code 52 = .ok (.invokestatic 38, 3) := by decide +kernel
theorem d_G_choose_55 : decode prog_3_method_4_code 55 = .ok (.ishl, 1) := by decide +kernel
theorem d_G_choose_56 : decode prog_3_method_4_code 56 = .ok (.istore 6, 2) := by decide +kernel
theorem d_G_choose_58 : decode prog_3_method_4_code 58 = .ok (.iload 6, 2) := by decide +kernel
theorem d_G_choose_60 : decode prog_3_method_4_code 60 = .ok (.aload_n 0, 1) := by decide +kernel
theorem d_G_choose_61 : decode prog_3_method_4_code 61 = .ok (.getfield 15, 3) := by decide +kernel
theorem d_G_choose_64 : decode prog_3_method_4_code 64 = .ok (.iload 4, 2) := by decide +kernel
theorem d_G_choose_66 : decode prog_3_method_4_code 66 = .ok (.iaload, 1) := by decide +kernel
theorem d_G_choose_67 : decode prog_3_method_4_code 67 = .ok (.isub, 1) := by decide +kernel
theorem d_G_choose_68 : decode prog_3_method_4_code 68 = .ok (.aload_n 0, 1) := by decide +kernel
theorem d_G_choose_69 : decode prog_3_method_4_code 69 = .ok (.getfield 15, 3) := by decide +kernel
theorem d_G_choose_72 : decode prog_3_method_4_code 72 = .ok (.iload 5, 2) := by decide +kernel
theorem d_G_choose_74 : decode prog_3_method_4_code 74 = .ok (.iaload, 1) := by decide +kernel
theorem d_G_choose_75 : decode prog_3_method_4_code 75 = .ok (.isub, 1) := by decide +kernel
theorem d_G_choose_76 : decode prog_3_method_4_code 76 = .ok (.istore 7, 2) := by decide +kernel
theorem d_G_choose_78 : decode prog_3_method_4_code 78 = .ok (.iload 7, 2) := by decide +kernel
theorem d_G_choose_80 : decode prog_3_method_4_code 80 = .ok (.iload_n 3, 1) := by decide +kernel
theorem d_G_choose_81 : decode prog_3_method_4_code 81 = .ok (.if_icmp .ge 34, 3) := by decide +kernel
theorem d_G_choose_84 : decode prog_3_method_4_code 84 = .ok (.iload 5, 2) := by decide +kernel
theorem d_G_choose_86 : decode prog_3_method_4_code 86 = .ok (.aload_n 0, 1) := by decide +kernel
theorem d_G_choose_87 : decode prog_3_method_4_code 87 = .ok (.getfield 24, 3) := by decide +kernel
theorem d_G_choose_90 : decode prog_3_method_4_code 90 = .ok (.invokestatic 45, 3) := by decide +kernel
theorem d_G_choose_93 : decode prog_3_method_4_code 93 = .ok (.ifCond .ne 22, 3) := by decide +kernel
theorem d_G_choose_96 : decode prog_3_method_4_code 96 = .ok (.iload 7, 2) := by decide +kernel
theorem d_G_choose_98 : decode prog_3_method_4_code 98 = .ok (.istore_n 3, 1) := by decide +kernel
theorem d_G_choose_99 : decode prog_3_method_4_code 99 = .ok (.aload_n 0, 1) := by decide +kernel
theorem d_G_choose_100 : decode prog_3_method_4_code 100 = .ok (.getfield 18, 3) := by decide +kernel
theorem d_G_choose_103 : decode prog_3_method_4_code 103 = .ok (.iload_n 1, 1) := by decide +kernel
theorem d_G_choose_104 : decode prog_3_method_4_code 104 = .ok (.iload 4, 2) := by decide +kernel
theorem d_G_choose_106 : decode prog_3_method_4_code 106 = .ok (.iastore, 1) := by decide +kernel
theorem d_G_choose_107 : decode prog_3_method_4_code 107 = .ok (.aload_n 0, 1) := by decide +kernel
theorem d_G_choose_108 : decode prog_3_method_4_code 108 = .ok (.getfield 21, 3) := by decide +kernel
theorem d_G_choose_111 : decode prog_3_method_4_code 111 = .ok (.iload_n 1, 1) := by decide +kernel
theorem d_G_choose_112 : decode prog_3_method_4_code 112 = .ok (.iload 5, 2) := by decide +kernel
theorem d_G_choose_114 : decode prog_3_method_4_code 114 = .ok (.iastore, 1) := by decide +kernel
theorem d_G_choose_115 : decode prog_3_method_4_code 115 = .ok (.iinc 5 1, 3) := by decide +kernel
theorem d_G_choose_118 : decode prog_3_method_4_code 118 = .ok (.goto (-100), 3) := by decide +kernel
theorem d_G_choose_121 : decode prog_3_method_4_code 121 = .ok (.iinc 4 1, 3) := by decide +kernel
theorem d_G_choose_124 : decode prog_3_method_4_code 124 = .ok (.goto (-118), 3) := by decide +kernel
theorem d_G_choose_127 : decode prog_3_method_4_code 127 = .ok (.return_, 1) := by decide +kernel
theorem d_O_find_0 : decode prog_4_method_2_code 0 = .ok (.iconst 1, 1) := by decide +kernel
theorem d_O_find_1 : decode prog_4_method_2_code 1 = .ok (.iload_n 2, 1) := by decide +kernel
theorem d_O_find_2 : decode prog_4_method_2_code 2 = .ok (.ishl, 1) := by decide +kernel
theorem d_O_find_3 : decode prog_4_method_2_code 3 = .ok (.iconst 1, 1) := by decide +kernel
theorem d_O_find_4 : decode prog_4_method_2_code 4 = .ok (.isub, 1) := by decide +kernel
theorem d_O_find_5 : decode prog_4_method_2_code 5 = .ok (.istore 4, 2) := by decide +kernel
theorem d_O_find_7 : decode prog_4_method_2_code 7 = .ok (.iconst 1, 1) := by decide +kernel
theorem d_O_find_8 : decode prog_4_method_2_code 8 = .ok (.istore 5, 2) := by decide +kernel
theorem d_O_find_10 : decode prog_4_method_2_code 10 = .ok (.iload 5, 2) := by decide +kernel
theorem d_O_find_12 : decode prog_4_method_2_code 12 = .ok (.iload 4, 2) := by decide +kernel
theorem d_O_find_14 : decode prog_4_method_2_code 14 = .ok (.if_icmp .gt 95, 3) := by decide +kernel
theorem d_O_find_17 : decode prog_4_method_2_code 17 = .ok (.iload 5, 2) := by decide +kernel
theorem d_O_find_19 : decode prog_4_method_2_code 19 = .ok (.iload 5, 2) := by decide +kernel
theorem d_O_find_21 : decode prog_4_method_2_code 21 = .ok (.iconst 1, 1) := by decide +kernel
theorem d_O_find_22 : decode prog_4_method_2_code 22 = .ok (.isub, 1) := by decide +kernel
theorem d_O_find_23 : decode prog_4_method_2_code 23 = .ok (.iand, 1) := by decide +kernel
theorem d_O_find_24 : decode prog_4_method_2_code 24 = .ok (.istore 6, 2) := by decide +kernel
theorem d_O_find_26 : decode prog_4_method_2_code 26 = .ok (.aload_n 0, 1) := by decide +kernel
theorem d_O_find_27 : decode prog_4_method_2_code 27 = .ok (.getfield 9, 3) := by decide +kernel
theorem d_O_find_30 : decode prog_4_method_2_code 30 = .ok (.iload 5, 2) := by decide +kernel
theorem d_O_find_32 : decode prog_4_method_2_code 32 = .ok (.aload_n 0, 1) := by decide +kernel
theorem d_O_find_33 : decode prog_4_method_2_code 33 = .ok (.getfield 9, 3) := by decide +kernel
theorem d_O_find_36 : decode prog_4_method_2_code 36 = .ok (.iload 6, 2) := by decide +kernel
theorem d_O_find_38 : decode prog_4_method_2_code 38 = .ok (.iaload, 1) := by decide +kernel
theorem d_O_find_39 : decode prog_4_method_2_code 39 = .ok (.aload_n 1, 1) := by decide +kernel
theorem d_O_find_40 : decode prog_4_method_2_code 40 = .ok (.iload 5, 2) := by decide +kernel
theorem d_O_find_42 : decode prog_4_method_2_code 42 = .ok (.invokestatic 27, 3) := by decide +kernel
theorem d_O_find_45 : decode prog_4_method_2_code 45 = .ok (.iaload, 1) := by decide +kernel
theorem d_O_find_46 : decode prog_4_method_2_code 46 = .ok (.ixor, 1) := by decide +kernel
theorem d_O_find_47 : decode prog_4_method_2_code 47 = .ok (.iastore, 1) := by decide +kernel
theorem d_O_find_48 : decode prog_4_method_2_code 48 = .ok (.iload 6, 2) := by decide +kernel
theorem d_O_find_50 : decode prog_4_method_2_code 50 = .ok (.ifCond .ne 14, 3) := by decide +kernel
theorem d_O_find_53 : decode prog_4_method_2_code 53 = .ok (.aload_n 0, 1) := by decide +kernel
theorem d_O_find_54 : decode prog_4_method_2_code 54 = .ok (.getfield 15, 3) := by decide +kernel
theorem d_O_find_57 : decode prog_4_method_2_code 57 = .ok (.iload 5, 2) := by decide +kernel
theorem d_O_find_59 : decode prog_4_method_2_code 59 = .ok (.iconst 0, 1) := by decide +kernel
theorem d_O_find_60 : decode prog_4_method_2_code 60 = .ok (.iastore, 1) := by decide +kernel
theorem d_O_find_61 : decode prog_4_method_2_code 61 = .ok (.goto 42, 3) := by decide +kernel
theorem d_O_find_64 : decode prog_4_method_2_code 64 = .ok (.iload 5, 2) := by decide +kernel
theorem d_O_find_66 : decode prog_4_method_2_code 66 = .ok (.iload 4, 2) := by decide +kernel
theorem d_O_find_68 : decode prog_4_method_2_code 68 = .ok (.if_icmp .eq 26, 3) := by decide +kernel
theorem d_O_find_71 : decode prog_4_method_2_code 71 = .ok (.aload_n 0, 1) := by decide +kernel
theorem d_O_find_72 : decode prog_4_method_2_code 72 = .ok (.iload 5, 2) := by decide +kernel
theorem d_O_find_74 : decode prog_4_method_2_code 74 = .ok (.iload_n 3, 1) := by decide +kernel
theorem d_O_find_75 : decode prog_4_method_2_code 75 = .ok (.invokevirtual 33, 3) := by decide +kernel
theorem d_O_find_78 : decode prog_4_method_2_code 78 = .ok (.ifCond .eq 16, 3) := by decide +kernel
theorem d_O_find_81 : decode prog_4_method_2_code 81 = .ok (.aload_n 0, 1) := by decide +kernel
theorem d_O_find_82 : decode prog_4_method_2_code 82 = .ok (.getfield 15, 3) := by decide +kernel
theorem d_O_find_85 : decode prog_4_method_2_code 85 = .ok (.iload 5, 2) := by decide +kernel
theorem d_O_find_87 : decode prog_4_method_2_code 87 = .ok (.iload_n 3, 1) := by decide +kernel
theorem d_O_find_88 : decode prog_4_method_2_code 88 = .ok (.iconst 1, 1) := by decide +kernel
theorem d_O_find_89 : decode prog_4_method_2_code 89 = .ok (.iadd, 1) := by decide +kernel
theorem d_O_find_90 : decode prog_4_method_2_code 90 = .ok (.iastore, 1) := by decide +kernel
theorem d_O_find_91 : decode prog_4_method_2_code 91 = .ok (.goto 12, 3) := by decide +kernel
theorem d_O_find_94 : decode prog_4_method_2_code 94 = .ok (.aload_n 0, 1) := by decide +kernel
theorem d_O_find_95 : decode prog_4_method_2_code 95 = .ok (.iload 5, 2) := by decide +kernel
theorem d_O_find_97 : decode prog_4_method_2_code 97 = .ok (.iload 6, 2) := by decide +kernel
theorem d_O_find_99 : decode prog_4_method_2_code 99 = .ok (.iload_n 3, 1) := by decide +kernel
theorem d_O_find_100 : decode prog_4_method_2_code 100 = .ok (.invokevirtual 37, 3) := by decide +kernel
theorem d_O_find_103 : decode prog_4_method_2_code 103 = .ok (.iinc 5 1, 3) := by decide +kernel
theorem d_O_find_106 : decode prog_4_method_2_code 106 = .ok (.goto (-96), 3) := by decide +kernel
theorem d_O_find_109 : decode prog_4_method_2_code 109 = .ok (.aload_n 0, 1) := by decide +kernel
theorem d_O_find_110 : decode prog_4_method_2_code 110 = .ok (.aload_n 0, 1) := by decide +kernel
theorem d_O_find_111 : decode prog_4_method_2_code 111 = .ok (.getfield 15, 3) := by decide +kernel
theorem d_O_find_114 : decode prog_4_method_2_code 114 = .ok (.iload 4, 2) := by decide +kernel
theorem d_O_find_116 : decode prog_4_method_2_code 116 = .ok (.iaload, 1) := by decide +kernel
theorem d_O_find_117 : decode prog_4_method_2_code 117 = .ok (.putfield 41, 3) := by decide +kernel
theorem d_O_find_120 : decode prog_4_method_2_code 120 = .ok (.aload_n 0, 1) := by decide +kernel
theorem d_O_find_121 : decode prog_4_method_2_code 121 = .ok (.iload 4, 2) := by decide +kernel
theorem d_O_find_123 : decode prog_4_method_2_code 123 = .ok (.iload_n 2, 1) := by decide +kernel
theorem d_O_find_124 : decode prog_4_method_2_code 124 = .ok (.invokevirtual 45, 3) := by decide +kernel
theorem d_O_find_127 : decode prog_4_method_2_code 127 = .ok (.aload_n 0, 1) := by decide +kernel
theorem d_O_find_128 : decode prog_4_method_2_code 128 = .ok (.iload_n 2, 1) := by decide +kernel
theorem d_O_find_129 : decode prog_4_method_2_code 129 = .ok (.invokevirtual 49, 3) := by decide +kernel
theorem d_O_find_132 : decode prog_4_method_2_code 132 = .ok (.return_, 1) := by decide +kernel
theorem d_O_isTooDear_0 : decode prog_4_method_3_code 0 = .ok (.iconst 2, 1) := by decide +kernel
theorem d_O_isTooDear_1 : decode prog_4_method_3_code 1 = .ok (.aload_n 0, 1) := by decide +kernel
theorem d_O_isTooDear_2 : decode prog_4_method_3_code 2 = .ok (.getfield 9, 3) := by decide +kernel
theorem d_O_isTooDear_5 : decode prog_4_method_3_code 5 = .ok (.iload_n 1, 1) := by decide +kernel
theorem d_O_isTooDear_6 : decode prog_4_method_3_code 6 = .ok (.iaload, 1) := by decide +kernel
theorem d_O_isTooDear_7 : decode prog_4_method_3_code 7 = .ok (.invokestatic 53, 3) := by decide +kernel
theorem d_O_isTooDear_10 : decode prog_4_method_3_code 10 = .ok (.ishl, 1) := by decide +kernel
theorem d_O_isTooDear_11 : decode prog_4_method_3_code 11 = .ok (.iload_n 2, 1) := by decide +kernel
theorem d_O_isTooDear_12 : decode prog_4_method_3_code 12 = .ok (.if_icmp .le 7, 3) := by decide +kernel
theorem d_O_isTooDear_15 : decode prog_4_method_3_code 15 = .ok (.iconst 1, 1) := by decide +kernel
theorem d_O_isTooDear_16 : decode prog_4_method_3_code 16 = .ok (.goto 4, 3) := by decide +kernel
theorem d_O_isTooDear_19 : decode prog_4_method_3_code 19 = .ok (.iconst 0, 1) := by decide +kernel
theorem d_O_isTooDear_20 : decode prog_4_method_3_code 20 = .ok (.ireturn, 1) := by decide +kernel
theorem d_O_partInTwo_0 : decode prog_4_method_4_code 0 = .ok (.iload_n 1, 1) := by decide +kernel
theorem d_O_partInTwo_1 : decode prog_4_method_4_code 1 = .ok (.iload_n 2, 1) := by decide +kernel
theorem d_O_partInTwo_2 : decode prog_4_method_4_code 2 = .ok (.ixor, 1) := by decide +kernel
theorem d_O_partInTwo_3 : decode prog_4_method_4_code 3 = .ok (.istore 4, 2) := by decide +kernel
theorem d_O_partInTwo_5 : decode prog_4_method_4_code 5 = .ok (.iload_n 3, 1) := by decide +kernel
theorem d_O_partInTwo_6 : decode prog_4_method_4_code 6 = .ok (.iconst 1, 1) := by decide +kernel
theorem d_O_partInTwo_7 : decode prog_4_method_4_code 7 = .ok (.iadd, 1) := by decide +kernel
theorem d_O_partInTwo_8 : decode prog_4_method_4_code 8 = .ok (.istore 5, 2) := by decide +kernel
theorem d_O_partInTwo_10 : decode prog_4_method_4_code 10 = .ok (.iload 4, 2) := by decide +kernel
theorem d_O_partInTwo_12 : decode prog_4_method_4_code 12 = .ok (.istore 6, 2) := by decide +kernel
theorem d_O_partInTwo_14 : decode prog_4_method_4_code 14 = .ok (.iconst 0, 1) := by decide +kernel
theorem d_O_partInTwo_15 : decode prog_4_method_4_code 15 = .ok (.istore 7, 2) := by decide +kernel
theorem d_O_partInTwo_17 : decode prog_4_method_4_code 17 = .ok (.iconst 1, 1) := by decide +kernel
theorem d_O_partInTwo_18 : decode prog_4_method_4_code 18 = .ok (.iload_n 2, 1) := by decide +kernel
theorem d_O_partInTwo_19 : decode prog_4_method_4_code 19 = .ok (.invokestatic 53, 3) := by decide +kernel
theorem d_O_partInTwo_22 : decode prog_4_method_4_code 22 = .ok (.ishl, 1) := by decide +kernel
theorem d_O_partInTwo_23 : decode prog_4_method_4_code 23 = .ok (.iconst 1, 1) := by decide +kernel
theorem d_O_partInTwo_24 : decode prog_4_method_4_code 24 = .ok (.isub, 1) := by decide +kernel
theorem d_O_partInTwo_25 : decode prog_4_method_4_code 25 = .ok (.istore 8, 2) := by decide +kernel
theorem d_O_partInTwo_27 : decode prog_4_method_4_code 27 = .ok (.iload 8, 2) := by decide +kernel
theorem d_O_partInTwo_29 : decode prog_4_method_4_code 29 = .ok (.ifCond .le 94, 3) := by decide +kernel
theorem d_O_partInTwo_32 : decode prog_4_method_4_code 32 = .ok (.iload 4, 2) := by decide +kernel
theorem d_O_partInTwo_34 : decode prog_4_method_4_code 34 = .ok (.iload 7, 2) := by decide +kernel
theorem d_O_partInTwo_36 : decode prog_4_method_4_code 36 = .ok (.ior, 1) := by decide +kernel
theorem d_O_partInTwo_37 : decode prog_4_method_4_code 37 = .ok (.istore 9, 2) := by decide +kernel
theorem d_O_partInTwo_39 : decode prog_4_method_4_code 39 = .ok (.iload_n 2, 1) := by decide +kernel
theorem d_O_partInTwo_40 : decode prog_4_method_4_code 40 = .ok (.iload 7, 2) := by decide +kernel
theorem d_O_partInTwo_42 : decode prog_4_method_4_code 42 = .ok (.ixor, 1) := by decide +kernel
theorem d_O_partInTwo_43 : decode prog_4_method_4_code 43 = .ok (.istore 10, 2) := by decide +kernel
theorem d_O_partInTwo_45 : decode prog_4_method_4_code 45 = .ok (.aload_n 0, 1) := by decide +kernel
theorem d_O_partInTwo_46 : decode prog_4_method_4_code 46 = .ok (.getfield 15, 3) := by decide +kernel
theorem d_O_partInTwo_49 : decode prog_4_method_4_code 49 = .ok (.iload 9, 2) := by decide +kernel
theorem d_O_partInTwo_51 : decode prog_4_method_4_code 51 = .ok (.iaload, 1) := by decide +kernel
theorem d_O_partInTwo_52 : decode prog_4_method_4_code 52 = .ok (.aload_n 0, 1) := by decide +kernel
theorem d_O_partInTwo_53 : decode prog_4_method_4_code 53 = .ok (.getfield 15, 3) := by decide +kernel
theorem d_O_partInTwo_56 : decode prog_4_method_4_code 56 = .ok (.iload 10, 2) := by decide +kernel
theorem d_O_partInTwo_58 : decode prog_4_method_4_code 58 = .ok (.iaload, 1) := by decide +kernel
theorem d_O_partInTwo_59 : decode prog_4_method_4_code 59 = .ok (.iadd, 1) := by decide +kernel
theorem d_O_partInTwo_60 : decode prog_4_method_4_code 60 = .ok (.istore 11, 2) := by decide +kernel
theorem d_O_partInTwo_62 : decode prog_4_method_4_code 62 = .ok (.iload 11, 2) := by decide +kernel
theorem d_O_partInTwo_64 : decode prog_4_method_4_code 64 = .ok (.iload 5, 2) := by decide +kernel
theorem d_O_partInTwo_66 : decode prog_4_method_4_code 66 = .ok (.if_icmp .ge 43, 3) := by decide +kernel
theorem d_O_partInTwo_69 : decode prog_4_method_4_code 69 = .ok (.iload 11, 2) := by decide +kernel
theorem d_O_partInTwo_71 : decode prog_4_method_4_code 71 = .ok (.iconst 1, 1) := by decide +kernel
theorem d_O_partInTwo_72 : decode prog_4_method_4_code 72 = .ok (.aload_n 0, 1) := by decide +kernel
theorem d_O_partInTwo_73 : decode prog_4_method_4_code 73 = .ok (.getfield 9, 3) := by decide +kernel
theorem d_O_partInTwo_76 : decode prog_4_method_4_code 76 = .ok (.iload 9, 2) := by decide +kernel
theorem d_O_partInTwo_78 : decode prog_4_method_4_code 78 = .ok (.iaload, 1) := by decide +kernel
theorem d_O_partInTwo_79 : decode prog_4_method_4_code 79 = .ok (.aload_n 0, 1) := by decide +kernel
theorem d_O_partInTwo_80 : decode prog_4_method_4_code 80 = .ok (.getfield 9, 3) := by decide +kernel
theorem d_O_partInTwo_83 : decode prog_4_method_4_code 83 = .ok (.iload 10, 2) := by decide +kernel
theorem d_O_partInTwo_85 : decode prog_4_method_4_code 85 = .ok (.iaload, 1) := by decide +kernel
theorem d_O_partInTwo_86 : decode prog_4_method_4_code 86 = .ok (.ior, 1) := by decide +kernel
theorem d_O_partInTwo_87 : decode prog_4_method_4_code 87 = .ok (.invokestatic 53, 3) := by decide +kernel
theorem d_O_partInTwo_90 : decode prog_4_method_4_code 90 = .ok (.ishl, 1) := by decide +kernel
theorem d_O_partInTwo_91 : decode prog_4_method_4_code 91 = .ok (.iadd, 1) := by decide +kernel
theorem d_O_partInTwo_92 : decode prog_4_method_4_code 92 = .ok (.istore 11, 2) := by decide +kernel
theorem d_O_partInTwo_94 : decode prog_4_method_4_code 94 = .ok (.iload 11, 2) := by decide +kernel
theorem d_O_partInTwo_96 : decode prog_4_method_4_code 96 = .ok (.iload 5, 2) := by decide +kernel
theorem d_O_partInTwo_98 : decode prog_4_method_4_code 98 = .ok (.if_icmp .ge 11, 3) := by decide +kernel
theorem d_O_partInTwo_101 : decode prog_4_method_4_code 101 = .ok (.iload 11, 2) := by decide +kernel
theorem d_O_partInTwo_103 : decode prog_4_method_4_code 103 = .ok (.istore 5, 2) := by decide +kernel
theorem d_O_partInTwo_105 : decode prog_4_method_4_code 105 = .ok (.iload 9, 2) := by decide +kernel
theorem d_O_partInTwo_107 : decode prog_4_method_4_code 107 = .ok (.istore 6, 2) := by decide +kernel
theorem d_O_partInTwo_109 : decode prog_4_method_4_code 109 = .ok (.iload 7, 2) := by decide +kernel
theorem d_O_partInTwo_111 : decode prog_4_method_4_code 111 = .ok (.iload_n 2, 1) := by decide +kernel
theorem d_O_partInTwo_112 : decode prog_4_method_4_code 112 = .ok (.isub, 1) := by decide +kernel
theorem d_O_partInTwo_113 : decode prog_4_method_4_code 113 = .ok (.iload_n 2, 1) := by decide +kernel
theorem d_O_partInTwo_114 : decode prog_4_method_4_code 114 = .ok (.iand, 1) := by decide +kernel
theorem d_O_partInTwo_115 : decode prog_4_method_4_code 115 = .ok (.istore 7, 2) := by decide +kernel
theorem d_O_partInTwo_117 : decode prog_4_method_4_code 117 = .ok (.iinc 8 (-1), 3) := by decide +kernel
theorem d_O_partInTwo_120 : decode prog_4_method_4_code 120 = .ok (.goto (-93), 3) := by decide +kernel
theorem d_O_partInTwo_123 : decode prog_4_method_4_code 123 = .ok (.aload_n 0, 1) := by decide +kernel
theorem d_O_partInTwo_124 : decode prog_4_method_4_code 124 = .ok (.getfield 15, 3) := by decide +kernel
theorem d_O_partInTwo_127 : decode prog_4_method_4_code 127 = .ok (.iload_n 1, 1) := by decide +kernel
theorem d_O_partInTwo_128 : decode prog_4_method_4_code 128 = .ok (.iload 5, 2) := by decide +kernel
theorem d_O_partInTwo_130 : decode prog_4_method_4_code 130 = .ok (.iastore, 1) := by decide +kernel
theorem d_O_partInTwo_131 : decode prog_4_method_4_code 131 = .ok (.aload_n 0, 1) := by decide +kernel
theorem d_O_partInTwo_132 : decode prog_4_method_4_code 132 = .ok (.getfield 18, 3) := by decide +kernel
theorem d_O_partInTwo_135 : decode prog_4_method_4_code 135 = .ok (.iload_n 1, 1) := by decide +kernel
theorem d_O_partInTwo_136 : decode prog_4_method_4_code 136 = .ok (.iload 6, 2) := by decide +kernel
theorem d_O_partInTwo_138 : decode prog_4_method_4_code 138 = .ok (.iastore, 1) := by decide +kernel
theorem d_O_partInTwo_139 : decode prog_4_method_4_code 139 = .ok (.return_, 1) := by decide +kernel
theorem d_O_listSteps_0 : decode prog_4_method_5_code 0 = .ok (.iload_n 2, 1) := by decide +kernel
theorem d_O_listSteps_1 : decode prog_4_method_5_code 1 = .ok (.iconst 1, 1) := by decide +kernel
theorem d_O_listSteps_2 : decode prog_4_method_5_code 2 = .ok (.isub, 1) := by decide +kernel
theorem d_O_listSteps_3 : decode prog_4_method_5_code 3 = .ok (.istore_n 3, 1) := by decide +kernel
theorem d_O_listSteps_4 : decode prog_4_method_5_code 4 = .ok (.iconst 0, 1) := by decide +kernel
theorem d_O_listSteps_5 : decode prog_4_method_5_code 5 = .ok (.istore 4, 2) := by decide +kernel
theorem d_O_listSteps_7 : decode prog_4_method_5_code 7 = .ok (.aload_n 0, 1) := by decide +kernel
theorem d_O_listSteps_8 : decode prog_4_method_5_code 8 = .ok (.getfield 24, 3) := by decide +kernel
theorem d_O_listSteps_11 : decode prog_4_method_5_code 11 = .ok (.iconst 0, 1) := by decide +kernel
theorem d_O_listSteps_12 : decode prog_4_method_5_code 12 = .ok (.iload_n 1, 1) := by decide +kernel
theorem d_O_listSteps_13 : decode prog_4_method_5_code 13 = .ok (.iastore, 1) := by decide +kernel
theorem d_O_listSteps_14 : decode prog_4_method_5_code 14 = .ok (.iconst 0, 1) := by decide +kernel
theorem d_O_listSteps_15 : decode prog_4_method_5_code 15 = .ok (.istore 5, 2) := by decide +kernel
theorem d_O_listSteps_17 : decode prog_4_method_5_code 17 = .ok (.iload 5, 2) := by decide +kernel
theorem d_O_listSteps_19 : decode prog_4_method_5_code 19 = .ok (.iconst 2, 1) := by decide +kernel
theorem d_O_listSteps_20 : decode prog_4_method_5_code 20 = .ok (.iload_n 2, 1) := by decide +kernel
theorem d_O_listSteps_21 : decode prog_4_method_5_code 21 = .ok (.imul, 1) := by decide +kernel
theorem d_O_listSteps_22 : decode prog_4_method_5_code 22 = .ok (.iconst 1, 1) := by decide +kernel
theorem d_O_listSteps_23 : decode prog_4_method_5_code 23 = .ok (.isub, 1) := by decide +kernel
theorem d_O_listSteps_24 : decode prog_4_method_5_code 24 = .ok (.if_icmp .ge 80, 3) := by decide +kernel
theorem d_O_listSteps_27 : decode prog_4_method_5_code 27 = .ok (.aload_n 0, 1) := by decide +kernel
theorem d_O_listSteps_28 : decode prog_4_method_5_code 28 = .ok (.getfield 24, 3) := by decide +kernel
theorem d_O_listSteps_31 : decode prog_4_method_5_code 31 = .ok (.iload 4, 2) := by decide +kernel
theorem d_O_listSteps_33 : decode prog_4_method_5_code 33 = .ok (.iaload, 1) := by decide +kernel
theorem d_O_listSteps_34 : decode prog_4_method_5_code 34 = .ok (.istore 6, 2) := by decide +kernel
theorem d_O_listSteps_36 : decode prog_4_method_5_code 36 = .ok (.iinc 4 (-1), 3) := by decide +kernel
theorem d_O_listSteps_39 : decode prog_4_method_5_code 39 = .ok (.iload 6, 2) := by decide +kernel
theorem d_O_listSteps_41 : decode prog_4_method_5_code 41 = .ok (.iload 6, 2) := by decide +kernel
theorem d_O_listSteps_43 : decode prog_4_method_5_code 43 = .ok (.iconst 1, 1) := by decide +kernel
theorem d_O_listSteps_44 : decode prog_4_method_5_code 44 = .ok (.isub, 1) := by decide +kernel
theorem d_O_listSteps_45 : decode prog_4_method_5_code 45 = .ok (.iand, 1) := by decide +kernel
theorem d_O_listSteps_46 : decode prog_4_method_5_code 46 = .ok (.ifCond .eq 52, 3) := by decide +kernel
theorem d_O_listSteps_49 : decode prog_4_method_5_code 49 = .ok (.iinc 3 (-1), 3) := by decide +kernel
theorem d_O_listSteps_52 : decode prog_4_method_5_code 52 = .ok (.aload_n 0, 1) := by decide +kernel
theorem d_O_listSteps_53 : decode prog_4_method_5_code 53 = .ok (.getfield 21, 3) := by decide +kernel
theorem d_O_listSteps_56 : decode prog_4_method_5_code 56 = .ok (.iload_n 3, 1) := by decide +kernel
theorem d_O_listSteps_57 : decode prog_4_method_5_code 57 = .ok (.iload 6, 2) := by decide +kernel
theorem d_O_listSteps_59 : decode prog_4_method_5_code 59 = .ok (.iastore, 1) := by decide +kernel
theorem d_O_listSteps_60 : decode prog_4_method_5_code 60 = .ok (.aload_n 0, 1) := by decide +kernel
theorem d_O_listSteps_61 : decode prog_4_method_5_code 61 = .ok (.getfield 24, 3) := by decide +kernel
theorem d_O_listSteps_64 : decode prog_4_method_5_code 64 = .ok (.iload 4, 2) := by decide +kernel
theorem d_O_listSteps_66 : decode prog_4_method_5_code 66 = .ok (.iconst 1, 1) := by decide +kernel
theorem d_O_listSteps_67 : decode prog_4_method_5_code 67 = .ok (.iadd, 1) := by decide +kernel
theorem d_O_listSteps_68 : decode prog_4_method_5_code 68 = .ok (.aload_n 0, 1) := by decide +kernel
theorem d_O_listSteps_69 : decode prog_4_method_5_code 69 = .ok (.getfield 18, 3) := by decide +kernel
theorem d_O_listSteps_72 : decode prog_4_method_5_code 72 = .ok (.iload 6, 2) := by decide +kernel
theorem d_O_listSteps_74 : decode prog_4_method_5_code 74 = .ok (.iaload, 1) := by decide +kernel
theorem d_O_listSteps_75 : decode prog_4_method_5_code 75 = .ok (.iastore, 1) := by decide +kernel
theorem d_O_listSteps_76 : decode prog_4_method_5_code 76 = .ok (.aload_n 0, 1) := by decide +kernel
theorem d_O_listSteps_77 : decode prog_4_method_5_code 77 = .ok (.getfield 24, 3) := by decide +kernel
theorem d_O_listSteps_80 : decode prog_4_method_5_code 80 = .ok (.iload 4, 2) := by decide +kernel
theorem d_O_listSteps_82 : decode prog_4_method_5_code 82 = .ok (.iconst 2, 1) := by decide +kernel
theorem d_O_listSteps_83 : decode prog_4_method_5_code 83 = .ok (.iadd, 1) := by decide +kernel
theorem d_O_listSteps_84 : decode prog_4_method_5_code 84 = .ok (.iload 6, 2) := by decide +kernel
theorem d_O_listSteps_86 : decode prog_4_method_5_code 86 = .ok (.aload_n 0, 1) := by decide +kernel
theorem d_O_listSteps_87 : decode prog_4_method_5_code 87 = .ok (.getfield 18, 3) := by decide +kernel
theorem d_O_listSteps_90 : decode prog_4_method_5_code 90 = .ok (.iload 6, 2) := by decide +kernel
theorem d_O_listSteps_92 : decode prog_4_method_5_code 92 = .ok (.iaload, 1) := by decide +kernel
theorem d_O_listSteps_93 : decode prog_4_method_5_code 93 = .ok (.ixor, 1) := by decide +kernel
theorem d_O_listSteps_94 : decode prog_4_method_5_code 94 = .ok (.iastore, 1) := by decide +kernel
theorem d_O_listSteps_95 : decode prog_4_method_5_code 95 = .ok (.iinc 4 2, 3) := by decide +kernel
theorem d_O_listSteps_98 : decode prog_4_method_5_code 98 = .ok (.iinc 5 1, 3) := by decide +kernel
theorem d_O_listSteps_101 : decode prog_4_method_5_code 101 = .ok (.goto (-84), 3) := by decide +kernel
theorem d_O_listSteps_104 : decode prog_4_method_5_code 104 = .ok (.return_, 1) := by decide +kernel
theorem d_O_findMostLegs_0 : decode prog_4_method_6_code 0 = .ok (.aload_n 0, 1) := by decide +kernel
theorem d_O_findMostLegs_1 : decode prog_4_method_6_code 1 = .ok (.iconst 0, 1) := by decide +kernel
theorem d_O_findMostLegs_2 : decode prog_4_method_6_code 2 = .ok (.putfield 56, 3) := by decide +kernel
theorem d_O_findMostLegs_5 : decode prog_4_method_6_code 5 = .ok (.iconst 0, 1) := by decide +kernel
theorem d_O_findMostLegs_6 : decode prog_4_method_6_code 6 = .ok (.istore_n 2, 1) := by decide +kernel
theorem d_O_findMostLegs_7 : decode prog_4_method_6_code 7 = .ok (.iload_n 2, 1) := by decide +kernel
theorem d_O_findMostLegs_8 : decode prog_4_method_6_code 8 = .ok (.iload_n 1, 1) := by decide +kernel
theorem d_O_findMostLegs_9 : decode prog_4_method_6_code 9 = .ok (.if_icmp .ge 31, 3) := by decide +kernel
theorem d_O_findMostLegs_12 : decode prog_4_method_6_code 12 = .ok (.aload_n 0, 1) := by decide +kernel
theorem d_O_findMostLegs_13 : decode prog_4_method_6_code 13 = .ok (.aload_n 0, 1) := by decide +kernel
theorem d_O_findMostLegs_14 : decode prog_4_method_6_code 14 = .ok (.getfield 56, 3) := by decide +kernel
theorem d_O_findMostLegs_17 : decode prog_4_method_6_code 17 = .ok (.aload_n 0, 1) := by decide +kernel
theorem d_O_findMostLegs_18 : decode prog_4_method_6_code 18 = .ok (.getfield 9, 3) := by decide +kernel
theorem d_O_findMostLegs_21 : decode prog_4_method_6_code 21 = .ok (.iconst 1, 1) := by decide +kernel
theorem d_O_findMostLegs_22 : decode prog_4_method_6_code 22 = .ok (.iload_n 2, 1) := by decide +kernel
theorem d_O_findMostLegs_23 : decode prog_4_method_6_code 23 = .ok (.ishl, 1) := by decide +kernel
theorem d_O_findMostLegs_24 : decode prog_4_method_6_code 24 = .ok (.iaload, 1) := by decide +kernel
theorem d_O_findMostLegs_25 : decode prog_4_method_6_code 25 = .ok (.invokestatic 53, 3) := by decide +kernel
theorem d_O_findMostLegs_28 : decode prog_4_method_6_code 28 = .ok (.invokestatic 59, 3) := by decide +kernel
theorem d_O_findMostLegs_31 : decode prog_4_method_6_code 31 = .ok (.putfield 56, 3) := by decide +kernel
theorem d_O_findMostLegs_34 : decode prog_4_method_6_code 34 = .ok (.iinc 2 1, 3) := by decide +kernel
theorem d_O_findMostLegs_37 : decode prog_4_method_6_code 37 = .ok (.goto (-30), 3) := by decide +kernel
theorem d_O_findMostLegs_40 : decode prog_4_method_6_code 40 = .ok (.iconst 0, 1) := by decide +kernel
theorem d_O_findMostLegs_41 : decode prog_4_method_6_code 41 = .ok (.istore_n 2, 1) := by decide +kernel
theorem d_O_findMostLegs_42 : decode prog_4_method_6_code 42 = .ok (.iload_n 2, 1) := by decide +kernel
theorem d_O_findMostLegs_43 : decode prog_4_method_6_code 43 = .ok (.iload_n 1, 1) := by decide +kernel
theorem d_O_findMostLegs_44 : decode prog_4_method_6_code 44 = .ok (.iconst 1, 1) := by decide +kernel
theorem d_O_findMostLegs_45 : decode prog_4_method_6_code 45 = .ok (.isub, 1) := by decide +kernel
theorem d_O_findMostLegs_46 : decode prog_4_method_6_code 46 = .ok (.if_icmp .ge 34, 3) := by decide +kernel
theorem d_O_findMostLegs_49 : decode prog_4_method_6_code 49 = .ok (.aload_n 0, 1) := by decide +kernel
theorem d_O_findMostLegs_50 : decode prog_4_method_6_code 50 = .ok (.aload_n 0, 1) := by decide +kernel
theorem d_O_findMostLegs_51 : decode prog_4_method_6_code 51 = .ok (.getfield 56, 3) := by decide +kernel
theorem d_O_findMostLegs_54 : decode prog_4_method_6_code 54 = .ok (.aload_n 0, 1) := by decide +kernel
theorem d_O_findMostLegs_55 : decode prog_4_method_6_code 55 = .ok (.getfield 9, 3) := by decide +kernel
theorem d_O_findMostLegs_58 : decode prog_4_method_6_code 58 = .ok (.aload_n 0, 1) := by decide +kernel
theorem d_O_findMostLegs_59 : decode prog_4_method_6_code 59 = .ok (.getfield 21, 3) := by decide +kernel
theorem d_O_findMostLegs_62 : decode prog_4_method_6_code 62 = .ok (.iload_n 2, 1) := by decide +kernel
theorem d_O_findMostLegs_63 : decode prog_4_method_6_code 63 = .ok (.iaload, 1) := by decide +kernel
theorem d_O_findMostLegs_64 : decode prog_4_method_6_code 64 = .ok (.iaload, 1) := by decide +kernel
theorem d_O_findMostLegs_65 : decode prog_4_method_6_code 65 = .ok (.invokestatic 53, 3) := by decide +kernel
theorem d_O_findMostLegs_68 : decode prog_4_method_6_code 68 = .ok (.invokestatic 59, 3) := by decide +kernel
theorem d_O_findMostLegs_71 : decode prog_4_method_6_code 71 = .ok (.putfield 56, 3) := by decide +kernel
theorem d_O_findMostLegs_74 : decode prog_4_method_6_code 74 = .ok (.iinc 2 1, 3) := by decide +kernel
theorem d_O_findMostLegs_77 : decode prog_4_method_6_code 77 = .ok (.goto (-35), 3) := by decide +kernel
theorem d_O_findMostLegs_80 : decode prog_4_method_6_code 80 = .ok (.return_, 1) := by decide +kernel
theorem d_C_begin_0 : decode prog_2_method_2_code 0 = .ok (.aload_n 0, 1) := by decide +kernel
theorem d_C_begin_1 : decode prog_2_method_2_code 1 = .ok (.iload_n 3, 1) := by decide +kernel
theorem d_C_begin_2 : decode prog_2_method_2_code 2 = .ok (.putfield 34, 3) := by decide +kernel
theorem d_C_begin_5 : decode prog_2_method_2_code 5 = .ok (.aload_n 0, 1) := by decide +kernel
theorem d_C_begin_6 : decode prog_2_method_2_code 6 = .ok (.iconst 0, 1) := by decide +kernel
theorem d_C_begin_7 : decode prog_2_method_2_code 7 = .ok (.putfield 38, 3) := by decide +kernel
theorem d_C_begin_10 : decode prog_2_method_2_code 10 = .ok (.iconst 0, 1) := by decide +kernel
theorem d_C_begin_11 : decode prog_2_method_2_code 11 = .ok (.istore 4, 2) := by decide +kernel
theorem d_C_begin_13 : decode prog_2_method_2_code 13 = .ok (.iconst 0, 1) := by decide +kernel
theorem d_C_begin_14 : decode prog_2_method_2_code 14 = .ok (.istore 5, 2) := by decide +kernel
theorem d_C_begin_16 : decode prog_2_method_2_code 16 = .ok (.iload 5, 2) := by decide +kernel
theorem d_C_begin_18 : decode prog_2_method_2_code 18 = .ok (.iload_n 2, 1) := by decide +kernel
theorem d_C_begin_19 : decode prog_2_method_2_code 19 = .ok (.if_icmp .ge 46, 3) := by decide +kernel
theorem d_C_begin_22 : decode prog_2_method_2_code 22 = .ok (.aload_n 0, 1) := by decide +kernel
theorem d_C_begin_23 : decode prog_2_method_2_code 23 = .ok (.getfield 15, 3) := by decide +kernel
theorem d_C_begin_26 : decode prog_2_method_2_code 26 = .ok (.iload 5, 2) := by decide +kernel
theorem d_C_begin_28 : decode prog_2_method_2_code 28 = .ok (.aload_n 1, 1) := by decide +kernel
theorem d_C_begin_29 : decode prog_2_method_2_code 29 = .ok (.getfield 41, 3) := by decide +kernel
theorem d_C_begin_32 : decode prog_2_method_2_code 32 = .ok (.iconst 1, 1) := by decide +kernel
theorem d_C_begin_33 : decode prog_2_method_2_code 33 = .ok (.iload 5, 2) := by decide +kernel
theorem d_C_begin_35 : decode prog_2_method_2_code 35 = .ok (.ishl, 1) := by decide +kernel
theorem d_C_begin_36 : decode prog_2_method_2_code 36 = .ok (.iaload, 1) := by decide +kernel
theorem d_C_begin_37 : decode prog_2_method_2_code 37 = .ok (.iload_n 3, 1) := by decide +kernel
theorem d_C_begin_38 : decode prog_2_method_2_code 38 = .ok (.iconst (-1), 1) := by decide +kernel
theorem d_C_begin_39 : decode prog_2_method_2_code 39 = .ok (.ixor, 1) := by decide +kernel
theorem d_C_begin_40 : decode prog_2_method_2_code 40 = .ok (.iand, 1) := by decide +kernel
theorem d_C_begin_41 : decode prog_2_method_2_code 41 = .ok (.iastore, 1) := by decide +kernel
theorem d_C_begin_42 : decode prog_2_method_2_code 42 = .ok (.iload 4, 2) := by decide +kernel
theorem d_C_begin_44 : decode prog_2_method_2_code 44 = .ok (.iconst 1, 1) := by decide +kernel
theorem d_C_begin_45 : decode prog_2_method_2_code 45 = .ok (.aload_n 0, 1) := by decide +kernel
theorem d_C_begin_46 : decode prog_2_method_2_code 46 = .ok (.getfield 15, 3) := by decide +kernel
theorem d_C_begin_49 : decode prog_2_method_2_code 49 = .ok (.iload 5, 2) := by decide +kernel
theorem d_C_begin_51 : decode prog_2_method_2_code 51 = .ok (.iaload, 1) := by decide +kernel
theorem d_C_begin_52 : decode prog_2_method_2_code 52 = .ok (.invokestatic 46, 3) := by decide +kernel
theorem d_C_begin_55 : decode prog_2_method_2_code 55 = .ok (.ishl, 1) := by decide +kernel
theorem d_C_begin_56 : decode prog_2_method_2_code 56 = .ok (.iadd, 1) := by decide +kernel
theorem d_C_begin_57 : decode prog_2_method_2_code 57 = .ok (.istore 4, 2) := by decide +kernel
theorem d_C_begin_59 : decode prog_2_method_2_code 59 = .ok (.iinc 5 1, 3) := by decide +kernel
theorem d_C_begin_62 : decode prog_2_method_2_code 62 = .ok (.goto (-46), 3) := by decide +kernel
theorem d_C_begin_65 : decode prog_2_method_2_code 65 = .ok (.iconst 0, 1) := by decide +kernel
theorem d_C_begin_66 : decode prog_2_method_2_code 66 = .ok (.istore 5, 2) := by decide +kernel
theorem d_C_begin_68 : decode prog_2_method_2_code 68 = .ok (.iload 5, 2) := by decide +kernel
theorem d_C_begin_70 : decode prog_2_method_2_code 70 = .ok (.iload_n 2, 1) := by decide +kernel
theorem d_C_begin_71 : decode prog_2_method_2_code 71 = .ok (.iconst 1, 1) := by decide +kernel
theorem d_C_begin_72 : decode prog_2_method_2_code 72 = .ok (.isub, 1) := by decide +kernel
theorem d_C_begin_73 : decode prog_2_method_2_code 73 = .ok (.if_icmp .ge 35, 3) := by decide +kernel
theorem d_C_begin_76 : decode prog_2_method_2_code 76 = .ok (.iload 4, 2) := by decide +kernel
theorem d_C_begin_78 : decode prog_2_method_2_code 78 = .ok (.iconst 1, 1) := by decide +kernel
theorem d_C_begin_79 : decode prog_2_method_2_code 79 = .ok (.aload_n 1, 1) := by decide +kernel
theorem d_C_begin_80 : decode prog_2_method_2_code 80 = .ok (.getfield 41, 3) := by decide +kernel
theorem d_C_begin_83 : decode prog_2_method_2_code 83 = .ok (.aload_n 1, 1) := by decide +kernel
theorem d_C_begin_84 : decode prog_2_method_2_code 84 = .ok (.getfield 52, 3) := by decide +kernel
theorem d_C_begin_87 : decode prog_2_method_2_code 87 = .ok (.iload 5, 2) := by decide +kernel
theorem d_C_begin_89 : decode prog_2_method_2_code 89 = .ok (.iaload, 1) := by decide +kernel
theorem d_C_begin_90 : decode prog_2_method_2_code 90 = .ok (.iaload, 1) := by decide +kernel
theorem d_C_begin_91 : decode prog_2_method_2_code 91 = .ok (.iload_n 3, 1) := by decide +kernel
theorem d_C_begin_92 : decode prog_2_method_2_code 92 = .ok (.iconst (-1), 1) := by decide +kernel
theorem d_C_begin_93 : decode prog_2_method_2_code 93 = .ok (.ixor, 1) := by decide +kernel
theorem d_C_begin_94 : decode prog_2_method_2_code 94 = .ok (.iand, 1) := by decide +kernel
theorem d_C_begin_95 : decode prog_2_method_2_code 95 = .ok (.invokestatic 46, 3) := by decide +kernel
theorem d_C_begin_98 : decode prog_2_method_2_code 98 = .ok (.ishl, 1) := by decide +kernel
theorem d_C_begin_99 : decode prog_2_method_2_code 99 = .ok (.iadd, 1) := by decide +kernel
theorem d_C_begin_100 : decode prog_2_method_2_code 100 = .ok (.istore 4, 2) := by decide +kernel
theorem d_C_begin_102 : decode prog_2_method_2_code 102 = .ok (.iinc 5 1, 3) := by decide +kernel
theorem d_C_begin_105 : decode prog_2_method_2_code 105 = .ok (.goto (-37), 3) := by decide +kernel
theorem d_C_begin_108 : decode prog_2_method_2_code 108 = .ok (.aload_n 0, 1) := by decide +kernel
theorem d_C_begin_109 : decode prog_2_method_2_code 109 = .ok (.iload 4, 2) := by decide +kernel
theorem d_C_begin_111 : decode prog_2_method_2_code 111 = .ok (.invokevirtual 55, 3) := by decide +kernel
theorem d_C_begin_114 : decode prog_2_method_2_code 114 = .ok (.return_, 1) := by decide +kernel
theorem d_C_makeRoom_0 : decode prog_2_method_3_code 0 = .ok (.iload_n 1, 1) := by decide +kernel
theorem d_C_makeRoom_1 : decode prog_2_method_3_code 1 = .ok (.aload_n 0, 1) := by decide +kernel
theorem d_C_makeRoom_2 : decode prog_2_method_3_code 2 = .ok (.getfield 27, 3) := by decide +kernel
theorem d_C_makeRoom_5 : decode prog_2_method_3_code 5 = .ok (.arraylength, 1) := by decide +kernel
theorem d_C_makeRoom_6 : decode prog_2_method_3_code 6 = .ok (.if_icmp .le 30, 3) := by decide +kernel
theorem d_C_makeRoom_9 : decode prog_2_method_3_code 9 = .ok (.iload_n 1, 1) := by decide +kernel
theorem d_C_makeRoom_10 : decode prog_2_method_3_code 10 = .ok (.iconst 2, 1) := by decide +kernel
theorem d_C_makeRoom_11 : decode prog_2_method_3_code 11 = .ok (.aload_n 0, 1) := by decide +kernel
theorem d_C_makeRoom_12 : decode prog_2_method_3_code 12 = .ok (.getfield 27, 3) := by decide +kernel
theorem d_C_makeRoom_15 : decode prog_2_method_3_code 15 = .ok (.arraylength, 1) := by decide +kernel
theorem d_C_makeRoom_16 : decode prog_2_method_3_code 16 = .ok (.imul, 1) := by decide +kernel
theorem d_C_makeRoom_17 : decode prog_2_method_3_code 17 = .ok (.invokestatic 59, 3) := by decide +kernel
theorem d_C_makeRoom_20 : decode prog_2_method_3_code 20 = .ok (.istore_n 2, 1) := by decide +kernel
theorem d_C_makeRoom_21 : decode prog_2_method_3_code 21 = .ok (.aload_n 0, 1) := by decide +kernel
theorem d_C_makeRoom_22 : decode prog_2_method_3_code 22 = .ok (.iload_n 2, 1) := by decide +kernel
theorem d_C_makeRoom_23 : decode prog_2_method_3_code 23 = .ok (.newarray .long, 2) := by decide +kernel
theorem d_C_makeRoom_25 : decode prog_2_method_3_code 25 = .ok (.putfield 27, 3) := by decide +kernel
theorem d_C_makeRoom_28 : decode prog_2_method_3_code 28 = .ok (.aload_n 0, 1) := by decide +kernel
theorem d_C_makeRoom_29 : decode prog_2_method_3_code 29 = .ok (.iload_n 2, 1) := by decide +kernel
theorem d_C_makeRoom_30 : decode prog_2_method_3_code 30 = .ok (.newarray .long, 2) := by decide +kernel
theorem d_C_makeRoom_32 : decode prog_2_method_3_code 32 = .ok (.putfield 31, 3) := by decide +kernel
theorem d_C_makeRoom_35 : decode prog_2_method_3_code 35 = .ok (.return_, 1) := by decide +kernel
theorem d_C_makeRoom_36 : decode prog_2_method_3_code 36 = .ok (.iconst 0, 1) := by decide +kernel
theorem d_C_makeRoom_37 : decode prog_2_method_3_code 37 = .ok (.istore_n 2, 1) := by decide +kernel
theorem d_C_makeRoom_38 : decode prog_2_method_3_code 38 = .ok (.iload_n 2, 1) := by decide +kernel
theorem d_C_makeRoom_39 : decode prog_2_method_3_code 39 = .ok (.iload_n 1, 1) := by decide +kernel
theorem d_C_makeRoom_40 : decode prog_2_method_3_code 40 = .ok (.if_icmp .ge 23, 3) := by decide +kernel
theorem d_C_makeRoom_43 : decode prog_2_method_3_code 43 = .ok (.aload_n 0, 1) := by decide +kernel
theorem d_C_makeRoom_44 : decode prog_2_method_3_code 44 = .ok (.getfield 27, 3) := by decide +kernel
theorem d_C_makeRoom_47 : decode prog_2_method_3_code 47 = .ok (.iload_n 2, 1) := by decide +kernel
theorem d_C_makeRoom_48 : decode prog_2_method_3_code 48 = .ok (.lconst 0, 1) := by decide +kernel
theorem d_C_makeRoom_49 : decode prog_2_method_3_code 49 = .ok (.lastore, 1) := by decide +kernel
theorem d_C_makeRoom_50 : decode prog_2_method_3_code 50 = .ok (.aload_n 0, 1) := by decide +kernel
theorem d_C_makeRoom_51 : decode prog_2_method_3_code 51 = .ok (.getfield 31, 3) := by decide +kernel
theorem d_C_makeRoom_54 : decode prog_2_method_3_code 54 = .ok (.iload_n 2, 1) := by decide +kernel
theorem d_C_makeRoom_55 : decode prog_2_method_3_code 55 = .ok (.lconst 0, 1) := by decide +kernel
theorem d_C_makeRoom_56 : decode prog_2_method_3_code 56 = .ok (.lastore, 1) := by decide +kernel
theorem d_C_makeRoom_57 : decode prog_2_method_3_code 57 = .ok (.iinc 2 1, 3) := by decide +kernel
theorem d_C_makeRoom_60 : decode prog_2_method_3_code 60 = .ok (.goto (-22), 3) := by decide +kernel
theorem d_C_makeRoom_63 : decode prog_2_method_3_code 63 = .ok (.return_, 1) := by decide +kernel
theorem d_C_load_0 : decode prog_2_method_5_code 0 = .ok (.aload_n 0, 1) := by decide +kernel
theorem d_C_load_1 : decode prog_2_method_5_code 1 = .ok (.getfield 9, 3) := by decide +kernel
theorem d_C_load_4 : decode prog_2_method_5_code 4 = .ok (.iload_n 1, 1) := by decide +kernel
theorem d_C_load_5 : decode prog_2_method_5_code 5 = .ok (.aload_n 0, 1) := by decide +kernel
theorem d_C_load_6 : decode prog_2_method_5_code 6 = .ok (.aload_n 0, 1) := by decide +kernel
theorem d_C_load_7 : decode prog_2_method_5_code 7 = .ok (.getfield 15, 3) := by decide +kernel
theorem d_C_load_10 : decode prog_2_method_5_code 10 = .ok (.iload_n 1, 1) := by decide +kernel
theorem d_C_load_11 : decode prog_2_method_5_code 11 = .ok (.iaload, 1) := by decide +kernel
theorem d_C_load_12 : decode prog_2_method_5_code 12 = .ok (.invokevirtual 65, 3) := by decide +kernel
theorem d_C_load_15 : decode prog_2_method_5_code 15 = .ok (.iastore, 1) := by decide +kernel
theorem d_C_load_16 : decode prog_2_method_5_code 16 = .ok (.iload 4, 2) := by decide +kernel
theorem d_C_load_18 : decode prog_2_method_5_code 18 = .ok (.iconst (-1), 1) := by decide +kernel
theorem d_C_load_19 : decode prog_2_method_5_code 19 = .ok (.if_icmp .eq 15, 3) := by decide +kernel
theorem d_C_load_22 : decode prog_2_method_5_code 22 = .ok (.aload_n 0, 1) := by decide +kernel
theorem d_C_load_23 : decode prog_2_method_5_code 23 = .ok (.iload_n 1, 1) := by decide +kernel
theorem d_C_load_24 : decode prog_2_method_5_code 24 = .ok (.aload_n 2, 1) := by decide +kernel
theorem d_C_load_25 : decode prog_2_method_5_code 25 = .ok (.iload_n 3, 1) := by decide +kernel
theorem d_C_load_26 : decode prog_2_method_5_code 26 = .ok (.iload 4, 2) := by decide +kernel
theorem d_C_load_28 : decode prog_2_method_5_code 28 = .ok (.iconst 1, 1) := by decide +kernel
theorem d_C_load_29 : decode prog_2_method_5_code 29 = .ok (.iconst 0, 1) := by decide +kernel
theorem d_C_load_30 : decode prog_2_method_5_code 30 = .ok (.invokevirtual 68, 3) := by decide +kernel
theorem d_C_load_33 : decode prog_2_method_5_code 33 = .ok (.return_, 1) := by decide +kernel
theorem d_C_load_34 : decode prog_2_method_5_code 34 = .ok (.iconst 0, 1) := by decide +kernel
theorem d_C_load_35 : decode prog_2_method_5_code 35 = .ok (.istore 5, 2) := by decide +kernel
theorem d_C_load_37 : decode prog_2_method_5_code 37 = .ok (.iload 5, 2) := by decide +kernel
theorem d_C_load_39 : decode prog_2_method_5_code 39 = .ok (.iconst 1, 1) := by decide +kernel
theorem d_C_load_40 : decode prog_2_method_5_code 40 = .ok (.aload_n 2, 1) := by decide +kernel
theorem d_C_load_41 : decode prog_2_method_5_code 41 = .ok (.getfield 72, 3) := by decide +kernel
theorem d_C_load_44 : decode prog_2_method_5_code 44 = .ok (.ishl, 1) := by decide +kernel
theorem d_C_load_45 : decode prog_2_method_5_code 45 = .ok (.if_icmp .ge 32, 3) := by decide +kernel
theorem d_C_load_48 : decode prog_2_method_5_code 48 = .ok (.aload_n 0, 1) := by decide +kernel
theorem d_C_load_49 : decode prog_2_method_5_code 49 = .ok (.iload_n 1, 1) := by decide +kernel
theorem d_C_load_50 : decode prog_2_method_5_code 50 = .ok (.aload_n 2, 1) := by decide +kernel
theorem d_C_load_51 : decode prog_2_method_5_code 51 = .ok (.iload_n 3, 1) := by decide +kernel
theorem d_C_load_52 : decode prog_2_method_5_code 52 = .ok (.iload 5, 2) := by decide +kernel
theorem d_C_load_54 : decode prog_2_method_5_code 54 = .ok (.aload_n 2, 1) := by decide +kernel
theorem d_C_load_55 : decode prog_2_method_5_code 55 = .ok (.getfield 77, 3) := by decide +kernel
theorem d_C_load_58 : decode prog_2_method_5_code 58 = .ok (.iload 5, 2) := by decide +kernel
theorem d_C_load_60 : decode prog_2_method_5_code 60 = .ok (.iaload, 1) := by decide +kernel
theorem d_C_load_61 : decode prog_2_method_5_code 61 = .ok (.aload_n 2, 1) := by decide +kernel
theorem d_C_load_62 : decode prog_2_method_5_code 62 = .ok (.getfield 79, 3) := by decide +kernel
theorem d_C_load_65 : decode prog_2_method_5_code 65 = .ok (.iload 5, 2) := by decide +kernel
theorem d_C_load_67 : decode prog_2_method_5_code 67 = .ok (.iaload, 1) := by decide +kernel
theorem d_C_load_68 : decode prog_2_method_5_code 68 = .ok (.invokevirtual 68, 3) := by decide +kernel
theorem d_C_load_71 : decode prog_2_method_5_code 71 = .ok (.iinc 5 1, 3) := by decide +kernel
theorem d_C_load_74 : decode prog_2_method_5_code 74 = .ok (.goto (-37), 3) := by decide +kernel
theorem d_C_load_77 : decode prog_2_method_5_code 77 = .ok (.return_, 1) := by decide +kernel
theorem d_C_take_0 : decode prog_2_method_4_code 0 = .ok (.aload_n 0, 1) := by decide +kernel
theorem d_C_take_1 : decode prog_2_method_4_code 1 = .ok (.getfield 38, 3) := by decide +kernel
theorem d_C_take_4 : decode prog_2_method_4_code 4 = .ok (.istore_n 2, 1) := by decide +kernel
theorem d_C_take_5 : decode prog_2_method_4_code 5 = .ok (.aload_n 0, 1) := by decide +kernel
theorem d_C_take_6 : decode prog_2_method_4_code 6 = .ok (.dup, 1) := by decide +kernel
theorem d_C_take_7 : decode prog_2_method_4_code 7 = .ok (.getfield 38, 3) := by decide +kernel
theorem d_C_take_10 : decode prog_2_method_4_code 10 = .ok (.iconst 1, 1) := by decide +kernel
theorem d_C_take_11 : decode prog_2_method_4_code 11 = .ok (.iload_n 1, 1) := by decide +kernel
theorem d_C_take_12 : decode prog_2_method_4_code 12 = .ok (.invokestatic 46, 3) := by decide +kernel
theorem d_C_take_15 : decode prog_2_method_4_code 15 = .ok (.ishl, 1) := by decide +kernel
theorem d_C_take_16 : decode prog_2_method_4_code 16 = .ok (.iadd, 1) := by decide +kernel
theorem d_C_take_17 : decode prog_2_method_4_code 17 = .ok (.putfield 38, 3) := by decide +kernel
theorem d_C_take_20 : decode prog_2_method_4_code 20 = .ok (.iload_n 2, 1) := by decide +kernel
theorem d_C_take_21 : decode prog_2_method_4_code 21 = .ok (.ireturn, 1) := by decide +kernel
theorem d_C_add_0 : decode prog_2_method_6_code 0 = .ok (.aload_n 2, 1) := by decide +kernel
theorem d_C_add_1 : decode prog_2_method_6_code 1 = .ok (.iload 4, 2) := by decide +kernel
theorem d_C_add_3 : decode prog_2_method_6_code 3 = .ok (.iconst 1, 1) := by decide +kernel
theorem d_C_add_4 : decode prog_2_method_6_code 4 = .ok (.invokevirtual 81, 3) := by decide +kernel
theorem d_C_add_7 : decode prog_2_method_6_code 7 = .ok (.istore 7, 2) := by decide +kernel
theorem d_C_add_9 : decode prog_2_method_6_code 9 = .ok (.aload_n 2, 1) := by decide +kernel
theorem d_C_add_10 : decode prog_2_method_6_code 10 = .ok (.iload 4, 2) := by decide +kernel
theorem d_C_add_12 : decode prog_2_method_6_code 12 = .ok (.iconst 0, 1) := by decide +kernel
theorem d_C_add_13 : decode prog_2_method_6_code 13 = .ok (.invokevirtual 81, 3) := by decide +kernel
theorem d_C_add_16 : decode prog_2_method_6_code 16 = .ok (.istore 8, 2) := by decide +kernel
theorem d_C_add_18 : decode prog_2_method_6_code 18 = .ok (.iload 7, 2) := by decide +kernel
theorem d_C_add_20 : decode prog_2_method_6_code 20 = .ok (.iload 8, 2) := by decide +kernel
theorem d_C_add_22 : decode prog_2_method_6_code 22 = .ok (.iand, 1) := by decide +kernel
theorem d_C_add_23 : decode prog_2_method_6_code 23 = .ok (.ifCond .ne 66, 3) := by decide +kernel
theorem d_C_add_26 : decode prog_2_method_6_code 26 = .ok (.iload 7, 2) := by decide +kernel
theorem d_C_add_28 : decode prog_2_method_6_code 28 = .ok (.aload_n 0, 1) := by decide +kernel
theorem d_C_add_29 : decode prog_2_method_6_code 29 = .ok (.getfield 34, 3) := by decide +kernel
theorem d_C_add_32 : decode prog_2_method_6_code 32 = .ok (.iand, 1) := by decide +kernel
theorem d_C_add_33 : decode prog_2_method_6_code 33 = .ok (.iload_n 3, 1) := by decide +kernel
theorem d_C_add_34 : decode prog_2_method_6_code 34 = .ok (.iload 7, 2) := by decide +kernel
theorem d_C_add_36 : decode prog_2_method_6_code 36 = .ok (.iload 8, 2) := by decide +kernel
theorem d_C_add_38 : decode prog_2_method_6_code 38 = .ok (.ior, 1) := by decide +kernel
theorem d_C_add_39 : decode prog_2_method_6_code 39 = .ok (.iand, 1) := by decide +kernel
theorem d_C_add_40 : decode prog_2_method_6_code 40 = .ok (.if_icmp .ne 49, 3) := by decide +kernel
theorem d_C_add_43 : decode prog_2_method_6_code 43 = .ok (.aload_n 0, 1) := by decide +kernel
theorem d_C_add_44 : decode prog_2_method_6_code 44 = .ok (.getfield 9, 3) := by decide +kernel
theorem d_C_add_47 : decode prog_2_method_6_code 47 = .ok (.iload_n 1, 1) := by decide +kernel
theorem d_C_add_48 : decode prog_2_method_6_code 48 = .ok (.iaload, 1) := by decide +kernel
theorem d_C_add_49 : decode prog_2_method_6_code 49 = .ok (.iload 7, 2) := by decide +kernel
theorem d_C_add_51 : decode prog_2_method_6_code 51 = .ok (.aload_n 0, 1) := by decide +kernel
theorem d_C_add_52 : decode prog_2_method_6_code 52 = .ok (.getfield 15, 3) := by decide +kernel
theorem d_C_add_55 : decode prog_2_method_6_code 55 = .ok (.iload_n 1, 1) := by decide +kernel
theorem d_C_add_56 : decode prog_2_method_6_code 56 = .ok (.iaload, 1) := by decide +kernel
theorem d_C_add_57 : decode prog_2_method_6_code 57 = .ok (.invokestatic 84, 3) := by decide +kernel
theorem d_C_add_60 : decode prog_2_method_6_code 60 = .ok (.iadd, 1) := by decide +kernel
theorem d_C_add_61 : decode prog_2_method_6_code 61 = .ok (.istore 9, 2) := by decide +kernel
theorem d_C_add_63 : decode prog_2_method_6_code 63 = .ok (.aload_n 0, 1) := by decide +kernel
theorem d_C_add_64 : decode prog_2_method_6_code 64 = .ok (.getfield 27, 3) := by decide +kernel
theorem d_C_add_67 : decode prog_2_method_6_code 67 = .ok (.iload 9, 2) := by decide +kernel
theorem d_C_add_69 : decode prog_2_method_6_code 69 = .ok (.dup2, 1) := by decide +kernel
theorem d_C_add_70 : decode prog_2_method_6_code 70 = .ok (.laload, 1) := by decide +kernel
theorem d_C_add_71 : decode prog_2_method_6_code 71 = .ok (.iload 5, 2) := by decide +kernel
theorem d_C_add_73 : decode prog_2_method_6_code 73 = .ok (.i2l, 1) := by decide +kernel
theorem d_C_add_74 : decode prog_2_method_6_code 74 = .ok (.ladd, 1) := by decide +kernel
theorem d_C_add_75 : decode prog_2_method_6_code 75 = .ok (.lastore, 1) := by decide +kernel
theorem d_C_add_76 : decode prog_2_method_6_code 76 = .ok (.aload_n 0, 1) := by decide +kernel
theorem d_C_add_77 : decode prog_2_method_6_code 77 = .ok (.getfield 31, 3) := by decide +kernel
theorem d_C_add_80 : decode prog_2_method_6_code 80 = .ok (.iload 9, 2) := by decide +kernel
theorem d_C_add_82 : decode prog_2_method_6_code 82 = .ok (.dup2, 1) := by decide +kernel
theorem d_C_add_83 : decode prog_2_method_6_code 83 = .ok (.laload, 1) := by decide +kernel
theorem d_C_add_84 : decode prog_2_method_6_code 84 = .ok (.iload 6, 2) := by decide +kernel
theorem d_C_add_86 : decode prog_2_method_6_code 86 = .ok (.i2l, 1) := by decide +kernel
theorem d_C_add_87 : decode prog_2_method_6_code 87 = .ok (.ladd, 1) := by decide +kernel
theorem d_C_add_88 : decode prog_2_method_6_code 88 = .ok (.lastore, 1) := by decide +kernel
theorem d_C_add_89 : decode prog_2_method_6_code 89 = .ok (.return_, 1) := by decide +kernel
theorem d_T_namesWithBit_0 : decode prog_5_method_4_code 0 = .ok (.iconst 0, 1) := by decide +kernel
theorem d_T_namesWithBit_1 : decode prog_5_method_4_code 1 = .ok (.istore_n 3, 1) := by decide +kernel
theorem d_T_namesWithBit_2 : decode prog_5_method_4_code 2 = .ok (.iconst 0, 1) := by decide +kernel
theorem d_T_namesWithBit_3 : decode prog_5_method_4_code 3 = .ok (.istore 4, 2) := by decide +kernel
theorem d_T_namesWithBit_5 : decode prog_5_method_4_code 5 = .ok (.iload 4, 2) := by decide +kernel
theorem d_T_namesWithBit_7 : decode prog_5_method_4_code 7 = .ok (.aload_n 0, 1) := by decide +kernel
theorem d_T_namesWithBit_8 : decode prog_5_method_4_code 8 = .ok (.getfield 21, 3) := by decide +kernel
theorem d_T_namesWithBit_11 : decode prog_5_method_4_code 11 = .ok (.if_icmp .ge 42, 3) := by decide +kernel
theorem d_T_namesWithBit_14 : decode prog_5_method_4_code 14 = .ok (.iload_n 1, 1) := by decide +kernel
theorem d_T_namesWithBit_15 : decode prog_5_method_4_code 15 = .ok (.iload 4, 2) := by decide +kernel
theorem d_T_namesWithBit_17 : decode prog_5_method_4_code 17 = .ok (.ishr, 1) := by decide +kernel
theorem d_T_namesWithBit_18 : decode prog_5_method_4_code 18 = .ok (.iconst 1, 1) := by decide +kernel
theorem d_T_namesWithBit_19 : decode prog_5_method_4_code 19 = .ok (.iand, 1) := by decide +kernel
theorem d_T_namesWithBit_20 : decode prog_5_method_4_code 20 = .ok (.iload_n 2, 1) := by decide +kernel
theorem d_T_namesWithBit_21 : decode prog_5_method_4_code 21 = .ok (.if_icmp .ne 26, 3) := by decide +kernel
theorem d_T_namesWithBit_24 : decode prog_5_method_4_code 24 = .ok (.aload_n 0, 1) := by decide +kernel
theorem d_T_namesWithBit_25 : decode prog_5_method_4_code 25 = .ok (.getfield 9, 3) := by decide +kernel
theorem d_T_namesWithBit_28 : decode prog_5_method_4_code 28 = .ok (.iload 4, 2) := by decide +kernel
theorem d_T_namesWithBit_30 : decode prog_5_method_4_code 30 = .ok (.iaload, 1) := by decide +kernel
theorem d_T_namesWithBit_31 : decode prog_5_method_4_code 31 = .ok (.iconst (-1), 1) := by decide +kernel
theorem d_T_namesWithBit_32 : decode prog_5_method_4_code 32 = .ok (.if_icmp .eq 15, 3) := by decide +kernel
theorem d_T_namesWithBit_35 : decode prog_5_method_4_code 35 = .ok (.iload_n 3, 1) := by decide +kernel
theorem d_T_namesWithBit_36 : decode prog_5_method_4_code 36 = .ok (.iconst 1, 1) := by decide +kernel
theorem d_T_namesWithBit_37 : decode prog_5_method_4_code 37 = .ok (.aload_n 0, 1) := by decide +kernel
theorem d_T_namesWithBit_38 : decode prog_5_method_4_code 38 = .ok (.getfield 9, 3) := by decide +kernel
theorem d_T_namesWithBit_41 : decode prog_5_method_4_code 41 = .ok (.iload 4, 2) := by decide +kernel
theorem d_T_namesWithBit_43 : decode prog_5_method_4_code 43 = .ok (.iaload, 1) := by decide +kernel
theorem d_T_namesWithBit_44 : decode prog_5_method_4_code 44 = .ok (.ishl, 1) := by decide +kernel
theorem d_T_namesWithBit_45 : decode prog_5_method_4_code 45 = .ok (.ior, 1) := by decide +kernel
theorem d_T_namesWithBit_46 : decode prog_5_method_4_code 46 = .ok (.istore_n 3, 1) := by decide +kernel
theorem d_T_namesWithBit_47 : decode prog_5_method_4_code 47 = .ok (.iinc 4 1, 3) := by decide +kernel
theorem d_T_namesWithBit_50 : decode prog_5_method_4_code 50 = .ok (.goto (-45), 3) := by decide +kernel
theorem d_T_namesWithBit_53 : decode prog_5_method_4_code 53 = .ok (.iload_n 3, 1) := by decide +kernel
theorem d_T_namesWithBit_54 : decode prog_5_method_4_code 54 = .ok (.ireturn, 1) := by decide +kernel
theorem d_C_joinAll_0 : decode prog_2_method_7_code 0 = .ok (.iconst 0, 1) := by decide +kernel
theorem d_C_joinAll_1 : decode prog_2_method_7_code 1 = .ok (.istore_n 3, 1) := by decide +kernel
theorem d_C_joinAll_2 : decode prog_2_method_7_code 2 = .ok (.iload_n 3, 1) := by decide +kernel
theorem d_C_joinAll_3 : decode prog_2_method_7_code 3 = .ok (.iload_n 2, 1) := by decide +kernel
theorem d_C_joinAll_4 : decode prog_2_method_7_code 4 = .ok (.iconst 1, 1) := by decide +kernel
theorem d_C_joinAll_5 : decode prog_2_method_7_code 5 = .ok (.isub, 1) := by decide +kernel
theorem d_C_joinAll_6 : decode prog_2_method_7_code 6 = .ok (.if_icmp .ge 43, 3) := by decide +kernel
theorem d_C_joinAll_9 : decode prog_2_method_7_code 9 = .ok (.aload_n 1, 1) := by decide +kernel
theorem d_C_joinAll_10 : decode prog_2_method_7_code 10 = .ok (.getfield 52, 3) := by decide +kernel
theorem d_C_joinAll_13 : decode prog_2_method_7_code 13 = .ok (.iload_n 3, 1) := by decide +kernel
theorem d_C_joinAll_14 : decode prog_2_method_7_code 14 = .ok (.iaload, 1) := by decide +kernel
theorem d_C_joinAll_15 : decode prog_2_method_7_code 15 = .ok (.istore 4, 2) := by decide +kernel
theorem d_C_joinAll_17 : decode prog_2_method_7_code 17 = .ok (.aload_n 1, 1) := by decide +kernel
theorem d_C_joinAll_18 : decode prog_2_method_7_code 18 = .ok (.getfield 87, 3) := by decide +kernel
theorem d_C_joinAll_21 : decode prog_2_method_7_code 21 = .ok (.iload 4, 2) := by decide +kernel
theorem d_C_joinAll_23 : decode prog_2_method_7_code 23 = .ok (.iaload, 1) := by decide +kernel
theorem d_C_joinAll_24 : decode prog_2_method_7_code 24 = .ok (.istore 5, 2) := by decide +kernel
theorem d_C_joinAll_26 : decode prog_2_method_7_code 26 = .ok (.aload_n 0, 1) := by decide +kernel
theorem d_C_joinAll_27 : decode prog_2_method_7_code 27 = .ok (.iload 5, 2) := by decide +kernel
theorem d_C_joinAll_29 : decode prog_2_method_7_code 29 = .ok (.invokestatic 90, 3) := by decide +kernel
theorem d_C_joinAll_32 : decode prog_2_method_7_code 32 = .ok (.iload 4, 2) := by decide +kernel
theorem d_C_joinAll_34 : decode prog_2_method_7_code 34 = .ok (.iload 5, 2) := by decide +kernel
theorem d_C_joinAll_36 : decode prog_2_method_7_code 36 = .ok (.ixor, 1) := by decide +kernel
theorem d_C_joinAll_37 : decode prog_2_method_7_code 37 = .ok (.invokestatic 90, 3) := by decide +kernel
theorem d_C_joinAll_40 : decode prog_2_method_7_code 40 = .ok (.invokevirtual 93, 3) := by decide +kernel
theorem d_C_joinAll_43 : decode prog_2_method_7_code 43 = .ok (.iinc 3 1, 3) := by decide +kernel
theorem d_C_joinAll_46 : decode prog_2_method_7_code 46 = .ok (.goto (-44), 3) := by decide +kernel
theorem d_C_joinAll_49 : decode prog_2_method_7_code 49 = .ok (.return_, 1) := by decide +kernel
theorem d_C_joinTwo_0 : decode prog_2_method_8_code 0 = .ok (.aload_n 0, 1) := by decide +kernel
theorem d_C_joinTwo_1 : decode prog_2_method_8_code 1 = .ok (.getfield 15, 3) := by decide +kernel
theorem d_C_joinTwo_4 : decode prog_2_method_8_code 4 = .ok (.iload_n 1, 1) := by decide +kernel
theorem d_C_joinTwo_5 : decode prog_2_method_8_code 5 = .ok (.iaload, 1) := by decide +kernel
theorem d_C_joinTwo_6 : decode prog_2_method_8_code 6 = .ok (.aload_n 0, 1) := by decide +kernel
theorem d_C_joinTwo_7 : decode prog_2_method_8_code 7 = .ok (.getfield 15, 3) := by decide +kernel
theorem d_C_joinTwo_10 : decode prog_2_method_8_code 10 = .ok (.iload_n 2, 1) := by decide +kernel
theorem d_C_joinTwo_11 : decode prog_2_method_8_code 11 = .ok (.iaload, 1) := by decide +kernel
theorem d_C_joinTwo_12 : decode prog_2_method_8_code 12 = .ok (.ior, 1) := by decide +kernel
theorem d_C_joinTwo_13 : decode prog_2_method_8_code 13 = .ok (.istore_n 3, 1) := by decide +kernel
theorem d_C_joinTwo_14 : decode prog_2_method_8_code 14 = .ok (.aload_n 0, 1) := by decide +kernel
theorem d_C_joinTwo_15 : decode prog_2_method_8_code 15 = .ok (.getfield 15, 3) := by decide +kernel
theorem d_C_joinTwo_18 : decode prog_2_method_8_code 18 = .ok (.iload_n 1, 1) := by decide +kernel
theorem d_C_joinTwo_19 : decode prog_2_method_8_code 19 = .ok (.iaload, 1) := by decide +kernel
theorem d_C_joinTwo_20 : decode prog_2_method_8_code 20 = .ok (.aload_n 0, 1) := by decide +kernel
theorem d_C_joinTwo_21 : decode prog_2_method_8_code 21 = .ok (.getfield 15, 3) := by decide +kernel
theorem d_C_joinTwo_24 : decode prog_2_method_8_code 24 = .ok (.iload_n 2, 1) := by decide +kernel
theorem d_C_joinTwo_25 : decode prog_2_method_8_code 25 = .ok (.iaload, 1) := by decide +kernel
theorem d_C_joinTwo_26 : decode prog_2_method_8_code 26 = .ok (.ixor, 1) := by decide +kernel
theorem d_C_joinTwo_27 : decode prog_2_method_8_code 27 = .ok (.istore 4, 2) := by decide +kernel
theorem d_C_joinTwo_29 : decode prog_2_method_8_code 29 = .ok (.aload_n 0, 1) := by decide +kernel
theorem d_C_joinTwo_30 : decode prog_2_method_8_code 30 = .ok (.iload 4, 2) := by decide +kernel
theorem d_C_joinTwo_32 : decode prog_2_method_8_code 32 = .ok (.invokevirtual 65, 3) := by decide +kernel
theorem d_C_joinTwo_35 : decode prog_2_method_8_code 35 = .ok (.istore 5, 2) := by decide +kernel
theorem d_C_joinTwo_37 : decode prog_2_method_8_code 37 = .ok (.aload_n 0, 1) := by decide +kernel
theorem d_C_joinTwo_38 : decode prog_2_method_8_code 38 = .ok (.getfield 18, 3) := by decide +kernel
theorem d_C_joinTwo_41 : decode prog_2_method_8_code 41 = .ok (.iload_n 3, 1) := by decide +kernel
theorem d_C_joinTwo_42 : decode prog_2_method_8_code 42 = .ok (.aload_n 0, 1) := by decide +kernel
theorem d_C_joinTwo_43 : decode prog_2_method_8_code 43 = .ok (.getfield 15, 3) := by decide +kernel
theorem d_C_joinTwo_46 : decode prog_2_method_8_code 46 = .ok (.iload_n 1, 1) := by decide +kernel
theorem d_C_joinTwo_47 : decode prog_2_method_8_code 47 = .ok (.iaload, 1) := by decide +kernel
theorem d_C_joinTwo_48 : decode prog_2_method_8_code 48 = .ok (.invokestatic 97, 3) := by decide +kernel
theorem d_C_joinTwo_51 : decode prog_2_method_8_code 51 = .ok (.aload_n 0, 1) := by decide +kernel
theorem d_C_joinTwo_52 : decode prog_2_method_8_code 52 = .ok (.getfield 21, 3) := by decide +kernel
theorem d_C_joinTwo_55 : decode prog_2_method_8_code 55 = .ok (.iload_n 3, 1) := by decide +kernel
theorem d_C_joinTwo_56 : decode prog_2_method_8_code 56 = .ok (.aload_n 0, 1) := by decide +kernel
theorem d_C_joinTwo_57 : decode prog_2_method_8_code 57 = .ok (.getfield 15, 3) := by decide +kernel
theorem d_C_joinTwo_60 : decode prog_2_method_8_code 60 = .ok (.iload_n 2, 1) := by decide +kernel
theorem d_C_joinTwo_61 : decode prog_2_method_8_code 61 = .ok (.iaload, 1) := by decide +kernel
theorem d_C_joinTwo_62 : decode prog_2_method_8_code 62 = .ok (.invokestatic 97, 3) := by decide +kernel
theorem d_C_joinTwo_65 : decode prog_2_method_8_code 65 = .ok (.aload_n 0, 1) := by decide +kernel
theorem d_C_joinTwo_66 : decode prog_2_method_8_code 66 = .ok (.getfield 24, 3) := by decide +kernel
theorem d_C_joinTwo_69 : decode prog_2_method_8_code 69 = .ok (.iload_n 3, 1) := by decide +kernel
theorem d_C_joinTwo_70 : decode prog_2_method_8_code 70 = .ok (.iload 4, 2) := by decide +kernel
theorem d_C_joinTwo_72 : decode prog_2_method_8_code 72 = .ok (.invokestatic 97, 3) := by decide +kernel
theorem d_C_joinTwo_75 : decode prog_2_method_8_code 75 = .ok (.aload_n 0, 1) := by decide +kernel
theorem d_C_joinTwo_76 : decode prog_2_method_8_code 76 = .ok (.getfield 9, 3) := by decide +kernel
theorem d_C_joinTwo_79 : decode prog_2_method_8_code 79 = .ok (.iload_n 1, 1) := by decide +kernel
theorem d_C_joinTwo_80 : decode prog_2_method_8_code 80 = .ok (.iaload, 1) := by decide +kernel
theorem d_C_joinTwo_81 : decode prog_2_method_8_code 81 = .ok (.istore 6, 2) := by decide +kernel
theorem d_C_joinTwo_83 : decode prog_2_method_8_code 83 = .ok (.aload_n 0, 1) := by decide +kernel
theorem d_C_joinTwo_84 : decode prog_2_method_8_code 84 = .ok (.getfield 9, 3) := by decide +kernel
theorem d_C_joinTwo_87 : decode prog_2_method_8_code 87 = .ok (.iload_n 2, 1) := by decide +kernel
theorem d_C_joinTwo_88 : decode prog_2_method_8_code 88 = .ok (.iaload, 1) := by decide +kernel
theorem d_C_joinTwo_89 : decode prog_2_method_8_code 89 = .ok (.istore 7, 2) := by decide +kernel
theorem d_C_joinTwo_91 : decode prog_2_method_8_code 91 = .ok (.iload 5, 2) := by decide +kernel
theorem d_C_joinTwo_93 : decode prog_2_method_8_code 93 = .ok (.istore 8, 2) := by decide +kernel
theorem d_C_joinTwo_95 : decode prog_2_method_8_code 95 = .ok (.iconst 1, 1) := by decide +kernel
theorem d_C_joinTwo_96 : decode prog_2_method_8_code 96 = .ok (.iload_n 3, 1) := by decide +kernel
theorem d_C_joinTwo_97 : decode prog_2_method_8_code 97 = .ok (.invokestatic 46, 3) := by decide +kernel
theorem d_C_joinTwo_100 : decode prog_2_method_8_code 100 = .ok (.ishl, 1) := by decide +kernel
theorem d_C_joinTwo_101 : decode prog_2_method_8_code 101 = .ok (.istore 9, 2) := by decide +kernel
theorem d_C_joinTwo_103 : decode prog_2_method_8_code 103 = .ok (.iconst 1, 1) := by decide +kernel
theorem d_C_joinTwo_104 : decode prog_2_method_8_code 104 = .ok (.istore 10, 2) := by decide +kernel
theorem d_C_joinTwo_106 : decode prog_2_method_8_code 106 = .ok (.iload 10, 2) := by decide +kernel
theorem d_C_joinTwo_108 : decode prog_2_method_8_code 108 = .ok (.iload 9, 2) := by decide +kernel
theorem d_C_joinTwo_110 : decode prog_2_method_8_code 110 = .ok (.if_icmp .gt 134, 3) := by decide +kernel
theorem d_C_joinTwo_113 : decode prog_2_method_8_code 113 = .ok (.aload_n 0, 1) := by decide +kernel
theorem d_C_joinTwo_114 : decode prog_2_method_8_code 114 = .ok (.getfield 27, 3) := by decide +kernel
theorem d_C_joinTwo_117 : decode prog_2_method_8_code 117 = .ok (.iload 8, 2) := by decide +kernel
theorem d_C_joinTwo_119 : decode prog_2_method_8_code 119 = .ok (.dup2, 1) := by decide +kernel
theorem d_C_joinTwo_120 : decode prog_2_method_8_code 120 = .ok (.laload, 1) := by decide +kernel
theorem d_C_joinTwo_121 : decode prog_2_method_8_code 121 = .ok (.aload_n 0, 1) := by decide +kernel
theorem d_C_joinTwo_122 : decode prog_2_method_8_code 122 = .ok (.getfield 27, 3) := by decide +kernel
theorem d_C_joinTwo_125 : decode prog_2_method_8_code 125 = .ok (.iload 6, 2) := by decide +kernel
theorem d_C_joinTwo_127 : decode prog_2_method_8_code 127 = .ok (.laload, 1) := by decide +kernel
theorem d_C_joinTwo_128 : decode prog_2_method_8_code 128 = .ok (.aload_n 0, 1) := by decide +kernel
theorem d_C_joinTwo_129 : decode prog_2_method_8_code 129 = .ok (.getfield 27, 3) := by decide +kernel
theorem d_C_joinTwo_132 : decode prog_2_method_8_code 132 = .ok (.iload 7, 2) := by decide +kernel
theorem d_C_joinTwo_134 : decode prog_2_method_8_code 134 = .ok (.laload, 1) := by decide +kernel
theorem d_C_joinTwo_135 : decode prog_2_method_8_code 135 = .ok (.lmul, 1) := by decide +kernel
theorem d_C_joinTwo_136 : decode prog_2_method_8_code 136 = .ok (.aload_n 0, 1) := by decide +kernel
theorem d_C_joinTwo_137 : decode prog_2_method_8_code 137 = .ok (.getfield 31, 3) := by decide +kernel
theorem d_C_joinTwo_140 : decode prog_2_method_8_code 140 = .ok (.iload 6, 2) := by decide +kernel
theorem d_C_joinTwo_142 : decode prog_2_method_8_code 142 = .ok (.laload, 1) := by decide +kernel
theorem d_C_joinTwo_143 : decode prog_2_method_8_code 143 = .ok (.aload_n 0, 1) := by decide +kernel
theorem d_C_joinTwo_144 : decode prog_2_method_8_code 144 = .ok (.getfield 31, 3) := by decide +kernel
theorem d_C_joinTwo_147 : decode prog_2_method_8_code 147 = .ok (.iload 7, 2) := by decide +kernel
theorem d_C_joinTwo_149 : decode prog_2_method_8_code 149 = .ok (.laload, 1) := by decide +kernel
theorem d_C_joinTwo_150 : decode prog_2_method_8_code 150 = .ok (.lmul, 1) := by decide +kernel
theorem d_C_joinTwo_151 : decode prog_2_method_8_code 151 = .ok (.lsub, 1) := by decide +kernel
theorem d_C_joinTwo_152 : decode prog_2_method_8_code 152 = .ok (.ladd, 1) := by decide +kernel
theorem d_C_joinTwo_153 : decode prog_2_method_8_code 153 = .ok (.lastore, 1) := by decide +kernel
theorem d_C_joinTwo_154 : decode prog_2_method_8_code 154 = .ok (.aload_n 0, 1) := by decide +kernel
theorem d_C_joinTwo_155 : decode prog_2_method_8_code 155 = .ok (.getfield 31, 3) := by decide +kernel
theorem d_C_joinTwo_158 : decode prog_2_method_8_code 158 = .ok (.iload 8, 2) := by decide +kernel
theorem d_C_joinTwo_160 : decode prog_2_method_8_code 160 = .ok (.dup2, 1) := by decide +kernel
theorem d_C_joinTwo_161 : decode prog_2_method_8_code 161 = .ok (.laload, 1) := by decide +kernel
theorem d_C_joinTwo_162 : decode prog_2_method_8_code 162 = .ok (.aload_n 0, 1) := by decide +kernel
theorem d_C_joinTwo_163 : decode prog_2_method_8_code 163 = .ok (.getfield 27, 3) := by decide +kernel
theorem d_C_joinTwo_166 : decode prog_2_method_8_code 166 = .ok (.iload 6, 2) := by decide +kernel
theorem d_C_joinTwo_168 : decode prog_2_method_8_code 168 = .ok (.laload, 1) := by decide +kernel
theorem d_C_joinTwo_169 : decode prog_2_method_8_code 169 = .ok (.aload_n 0, 1) := by decide +kernel
theorem d_C_joinTwo_170 : decode prog_2_method_8_code 170 = .ok (.getfield 31, 3) := by decide +kernel
theorem d_C_joinTwo_173 : decode prog_2_method_8_code 173 = .ok (.iload 7, 2) := by decide +kernel
theorem d_C_joinTwo_175 : decode prog_2_method_8_code 175 = .ok (.laload, 1) := by decide +kernel
theorem d_C_joinTwo_176 : decode prog_2_method_8_code 176 = .ok (.lmul, 1) := by decide +kernel
theorem d_C_joinTwo_177 : decode prog_2_method_8_code 177 = .ok (.aload_n 0, 1) := by decide +kernel
theorem d_C_joinTwo_178 : decode prog_2_method_8_code 178 = .ok (.getfield 31, 3) := by decide +kernel
theorem d_C_joinTwo_181 : decode prog_2_method_8_code 181 = .ok (.iload 6, 2) := by decide +kernel
theorem d_C_joinTwo_183 : decode prog_2_method_8_code 183 = .ok (.laload, 1) := by decide +kernel
theorem d_C_joinTwo_184 : decode prog_2_method_8_code 184 = .ok (.aload_n 0, 1) := by decide +kernel
theorem d_C_joinTwo_185 : decode prog_2_method_8_code 185 = .ok (.getfield 27, 3) := by decide +kernel
theorem d_C_joinTwo_188 : decode prog_2_method_8_code 188 = .ok (.iload 7, 2) := by decide +kernel
theorem d_C_joinTwo_190 : decode prog_2_method_8_code 190 = .ok (.laload, 1) := by decide +kernel
theorem d_C_joinTwo_191 : decode prog_2_method_8_code 191 = .ok (.lmul, 1) := by decide +kernel
theorem d_C_joinTwo_192 : decode prog_2_method_8_code 192 = .ok (.ladd, 1) := by decide +kernel
theorem d_C_joinTwo_193 : decode prog_2_method_8_code 193 = .ok (.ladd, 1) := by decide +kernel
theorem d_C_joinTwo_194 : decode prog_2_method_8_code 194 = .ok (.lastore, 1) := by decide +kernel
theorem d_C_joinTwo_195 : decode prog_2_method_8_code 195 = .ok (.iload 10, 2) := by decide +kernel
theorem d_C_joinTwo_197 : decode prog_2_method_8_code 197 = .ok (.invokestatic 90, 3) := by decide +kernel
theorem d_C_joinTwo_200 : decode prog_2_method_8_code 200 = .ok (.istore 11, 2) := by decide +kernel
theorem d_C_joinTwo_202 : decode prog_2_method_8_code 202 = .ok (.iload 6, 2) := by decide +kernel
theorem d_C_joinTwo_204 : decode prog_2_method_8_code 204 = .ok (.aload_n 0, 1) := by decide +kernel
theorem d_C_joinTwo_205 : decode prog_2_method_8_code 205 = .ok (.getfield 18, 3) := by decide +kernel
theorem d_C_joinTwo_208 : decode prog_2_method_8_code 208 = .ok (.iload 11, 2) := by decide +kernel
theorem d_C_joinTwo_210 : decode prog_2_method_8_code 210 = .ok (.iaload, 1) := by decide +kernel
theorem d_C_joinTwo_211 : decode prog_2_method_8_code 211 = .ok (.iadd, 1) := by decide +kernel
theorem d_C_joinTwo_212 : decode prog_2_method_8_code 212 = .ok (.istore 6, 2) := by decide +kernel
theorem d_C_joinTwo_214 : decode prog_2_method_8_code 214 = .ok (.iload 7, 2) := by decide +kernel
theorem d_C_joinTwo_216 : decode prog_2_method_8_code 216 = .ok (.aload_n 0, 1) := by decide +kernel
theorem d_C_joinTwo_217 : decode prog_2_method_8_code 217 = .ok (.getfield 21, 3) := by decide +kernel
theorem d_C_joinTwo_220 : decode prog_2_method_8_code 220 = .ok (.iload 11, 2) := by decide +kernel
theorem d_C_joinTwo_222 : decode prog_2_method_8_code 222 = .ok (.iaload, 1) := by decide +kernel
theorem d_C_joinTwo_223 : decode prog_2_method_8_code 223 = .ok (.iadd, 1) := by decide +kernel
theorem d_C_joinTwo_224 : decode prog_2_method_8_code 224 = .ok (.istore 7, 2) := by decide +kernel
theorem d_C_joinTwo_226 : decode prog_2_method_8_code 226 = .ok (.iload 8, 2) := by decide +kernel
theorem d_C_joinTwo_228 : decode prog_2_method_8_code 228 = .ok (.aload_n 0, 1) := by decide +kernel
theorem d_C_joinTwo_229 : decode prog_2_method_8_code 229 = .ok (.getfield 24, 3) := by decide +kernel
theorem d_C_joinTwo_232 : decode prog_2_method_8_code 232 = .ok (.iload 11, 2) := by decide +kernel
theorem d_C_joinTwo_234 : decode prog_2_method_8_code 234 = .ok (.iaload, 1) := by decide +kernel
theorem d_C_joinTwo_235 : decode prog_2_method_8_code 235 = .ok (.iadd, 1) := by decide +kernel
theorem d_C_joinTwo_236 : decode prog_2_method_8_code 236 = .ok (.istore 8, 2) := by decide +kernel
theorem d_C_joinTwo_238 : decode prog_2_method_8_code 238 = .ok (.iinc 10 1, 3) := by decide +kernel
theorem d_C_joinTwo_241 : decode prog_2_method_8_code 241 = .ok (.goto (-135), 3) := by decide +kernel
theorem d_C_joinTwo_244 : decode prog_2_method_8_code 244 = .ok (.aload_n 0, 1) := by decide +kernel
theorem d_C_joinTwo_245 : decode prog_2_method_8_code 245 = .ok (.getfield 9, 3) := by decide +kernel
theorem d_C_joinTwo_248 : decode prog_2_method_8_code 248 = .ok (.iload_n 1, 1) := by decide +kernel
theorem d_C_joinTwo_249 : decode prog_2_method_8_code 249 = .ok (.iload 5, 2) := by decide +kernel
theorem d_C_joinTwo_251 : decode prog_2_method_8_code 251 = .ok (.iastore, 1) := by decide +kernel
theorem d_C_joinTwo_252 : decode prog_2_method_8_code 252 = .ok (.aload_n 0, 1) := by decide +kernel
theorem d_C_joinTwo_253 : decode prog_2_method_8_code 253 = .ok (.getfield 15, 3) := by decide +kernel
theorem d_C_joinTwo_256 : decode prog_2_method_8_code 256 = .ok (.iload_n 1, 1) := by decide +kernel
theorem d_C_joinTwo_257 : decode prog_2_method_8_code 257 = .ok (.iload 4, 2) := by decide +kernel
theorem d_C_joinTwo_259 : decode prog_2_method_8_code 259 = .ok (.iastore, 1) := by decide +kernel
theorem d_C_joinTwo_260 : decode prog_2_method_8_code 260 = .ok (.return_, 1) := by decide +kernel
theorem d_C_findMoves_0 : decode prog_2_method_9_code 0 = .ok (.iconst 0, 1) := by decide +kernel
theorem d_C_findMoves_1 : decode prog_2_method_9_code 1 = .ok (.istore_n 3, 1) := by decide +kernel
theorem d_C_findMoves_2 : decode prog_2_method_9_code 2 = .ok (.iconst 1, 1) := by decide +kernel
theorem d_C_findMoves_3 : decode prog_2_method_9_code 3 = .ok (.istore 4, 2) := by decide +kernel
theorem d_C_findMoves_5 : decode prog_2_method_9_code 5 = .ok (.iconst 0, 1) := by decide +kernel
theorem d_C_findMoves_6 : decode prog_2_method_9_code 6 = .ok (.istore 5, 2) := by decide +kernel
theorem d_C_findMoves_8 : decode prog_2_method_9_code 8 = .ok (.iconst 0, 1) := by decide +kernel
theorem d_C_findMoves_9 : decode prog_2_method_9_code 9 = .ok (.istore 6, 2) := by decide +kernel
theorem d_C_findMoves_11 : decode prog_2_method_9_code 11 = .ok (.iload 6, 2) := by decide +kernel
theorem d_C_findMoves_13 : decode prog_2_method_9_code 13 = .ok (.bipush 20, 2) := by decide +kernel
theorem d_C_findMoves_15 : decode prog_2_method_9_code 15 = .ok (.if_icmp .ge 60, 3) := by decide +kernel
theorem d_C_findMoves_18 : decode prog_2_method_9_code 18 = .ok (.iload 6, 2) := by decide +kernel
theorem d_C_findMoves_20 : decode prog_2_method_9_code 20 = .ok (.iload_n 1, 1) := by decide +kernel
theorem d_C_findMoves_21 : decode prog_2_method_9_code 21 = .ok (.invokestatic 101, 3) := by decide +kernel
theorem d_C_findMoves_24 : decode prog_2_method_9_code 24 = .ok (.ifCond .eq 45, 3) := by decide +kernel
theorem d_C_findMoves_27 : decode prog_2_method_9_code 27 = .ok (.iload 6, 2) := by decide +kernel
theorem d_C_findMoves_29 : decode prog_2_method_9_code 29 = .ok (.iload_n 2, 1) := by decide +kernel
theorem d_C_findMoves_30 : decode prog_2_method_9_code 30 = .ok (.invokestatic 101, 3) := by decide +kernel
theorem d_C_findMoves_33 : decode prog_2_method_9_code 33 = .ok (.ifCond .eq 8, 3) := by decide +kernel
theorem d_C_findMoves_36 : decode prog_2_method_9_code 36 = .ok (.iload 4, 2) := by decide +kernel
theorem d_C_findMoves_38 : decode prog_2_method_9_code 38 = .ok (.goto 4, 3) := by decide +kernel
theorem d_C_findMoves_41 : decode prog_2_method_9_code 41 = .ok (.iconst 0, 1) := by decide +kernel
theorem d_C_findMoves_42 : decode prog_2_method_9_code 42 = .ok (.istore 7, 2) := by decide +kernel
theorem d_C_findMoves_44 : decode prog_2_method_9_code 44 = .ok (.aload_n 0, 1) := by decide +kernel
theorem d_C_findMoves_45 : decode prog_2_method_9_code 45 = .ok (.iload_n 3, 1) := by decide +kernel
theorem d_C_findMoves_46 : decode prog_2_method_9_code 46 = .ok (.iload 7, 2) := by decide +kernel
theorem d_C_findMoves_48 : decode prog_2_method_9_code 48 = .ok (.iload 5, 2) := by decide +kernel
theorem d_C_findMoves_50 : decode prog_2_method_9_code 50 = .ok (.isub, 1) := by decide +kernel
theorem d_C_findMoves_51 : decode prog_2_method_9_code 51 = .ok (.iastore, 1) := by decide +kernel
theorem d_C_findMoves_52 : decode prog_2_method_9_code 52 = .ok (.iload 5, 2) := by decide +kernel
theorem d_C_findMoves_54 : decode prog_2_method_9_code 54 = .ok (.iload 7, 2) := by decide +kernel
theorem d_C_findMoves_56 : decode prog_2_method_9_code 56 = .ok (.iadd, 1) := by decide +kernel
theorem d_C_findMoves_57 : decode prog_2_method_9_code 57 = .ok (.istore 5, 2) := by decide +kernel
theorem d_C_findMoves_59 : decode prog_2_method_9_code 59 = .ok (.iload 4, 2) := by decide +kernel
theorem d_C_findMoves_61 : decode prog_2_method_9_code 61 = .ok (.iload 7, 2) := by decide +kernel
theorem d_C_findMoves_63 : decode prog_2_method_9_code 63 = .ok (.iadd, 1) := by decide +kernel
theorem d_C_findMoves_64 : decode prog_2_method_9_code 64 = .ok (.istore 4, 2) := by decide +kernel
theorem d_C_findMoves_66 : decode prog_2_method_9_code 66 = .ok (.iinc 3 1, 3) := by decide +kernel
theorem d_C_findMoves_69 : decode prog_2_method_9_code 69 = .ok (.iinc 6 1, 3) := by decide +kernel
theorem d_C_findMoves_72 : decode prog_2_method_9_code 72 = .ok (.goto (-61), 3) := by decide +kernel
theorem d_C_findMoves_75 : decode prog_2_method_9_code 75 = .ok (.aload_n 0, 1) := by decide +kernel
theorem d_C_findMoves_76 : decode prog_2_method_9_code 76 = .ok (.iload_n 3, 1) := by decide +kernel
theorem d_C_findMoves_77 : decode prog_2_method_9_code 77 = .ok (.iload 5, 2) := by decide +kernel
theorem d_C_findMoves_79 : decode prog_2_method_9_code 79 = .ok (.ineg, 1) := by decide +kernel
theorem d_C_findMoves_80 : decode prog_2_method_9_code 80 = .ok (.iastore, 1) := by decide +kernel
theorem d_C_findMoves_81 : decode prog_2_method_9_code 81 = .ok (.return_, 1) := by decide +kernel
theorem d_C_resultReal_0 : decode prog_2_method_10_code 0 = .ok (.aload_n 0, 1) := by decide +kernel
theorem d_C_resultReal_1 : decode prog_2_method_10_code 1 = .ok (.getfield 27, 3) := by decide +kernel
theorem d_C_resultReal_4 : decode prog_2_method_10_code 4 = .ok (.aload_n 0, 1) := by decide +kernel
theorem d_C_resultReal_5 : decode prog_2_method_10_code 5 = .ok (.getfield 9, 3) := by decide +kernel
theorem d_C_resultReal_8 : decode prog_2_method_10_code 8 = .ok (.iconst 0, 1) := by decide +kernel
theorem d_C_resultReal_9 : decode prog_2_method_10_code 9 = .ok (.iaload, 1) := by decide +kernel
theorem d_C_resultReal_10 : decode prog_2_method_10_code 10 = .ok (.laload, 1) := by decide +kernel
theorem d_C_resultReal_11 : decode prog_2_method_10_code 11 = .ok (.lreturn, 1) := by decide +kernel
theorem d_C_resultImaginary_0 : decode prog_2_method_11_code 0 = .ok (.aload_n 0, 1) := by decide +kernel
theorem d_C_resultImaginary_1 : decode prog_2_method_11_code 1 = .ok (.getfield 31, 3) := by decide +kernel
theorem d_C_resultImaginary_4 : decode prog_2_method_11_code 4 = .ok (.aload_n 0, 1) := by decide +kernel
theorem d_C_resultImaginary_5 : decode prog_2_method_11_code 5 = .ok (.getfield 9, 3) := by decide +kernel
theorem d_C_resultImaginary_8 : decode prog_2_method_11_code 8 = .ok (.iconst 0, 1) := by decide +kernel
theorem d_C_resultImaginary_9 : decode prog_2_method_11_code 9 = .ok (.iaload, 1) := by decide +kernel
theorem d_C_resultImaginary_10 : decode prog_2_method_11_code 10 = .ok (.laload, 1) := by decide +kernel
theorem d_C_resultImaginary_11 : decode prog_2_method_11_code 11 = .ok (.lreturn, 1) := by decide +kernel
