theorem dc_M_init_0 : decode bb_M_init 0 = .ok (.aload_n 0, 1) := by decide +kernel
theorem dc_M_init_1 : decode bb_M_init 1 = .ok (.invokespecial 1, 3) := by decide +kernel
theorem dc_M_init_4 : decode bb_M_init 4 = .ok (.aload_n 0, 1) := by decide +kernel
theorem dc_M_init_5 : decode bb_M_init 5 = .ok (.new 7, 3) := by decide +kernel
theorem dc_M_init_8 : decode bb_M_init 8 = .ok (.dup, 1) := by decide +kernel
theorem dc_M_init_9 : decode bb_M_init 9 = .ok (.invokespecial 9, 3) := by decide +kernel
theorem dc_M_init_12 : decode bb_M_init 12 = .ok (.putfield 10, 3) := by decide +kernel
theorem dc_M_init_15 : decode bb_M_init 15 = .ok (.aload_n 0, 1) := by decide +kernel
theorem dc_M_init_16 : decode bb_M_init 16 = .ok (.new 16, 3) := by decide +kernel
theorem dc_M_init_19 : decode bb_M_init 19 = .ok (.dup, 1) := by decide +kernel
theorem dc_M_init_20 : decode bb_M_init 20 = .ok (.aload_n 0, 1) := by decide +kernel
theorem dc_M_init_21 : decode bb_M_init 21 = .ok (.getfield 10, 3) := by decide +kernel
theorem dc_M_init_24 : decode bb_M_init 24 = .ok (.invokespecial 18, 3) := by decide +kernel
theorem dc_M_init_27 : decode bb_M_init 27 = .ok (.putfield 21, 3) := by decide +kernel
theorem dc_M_init_30 : decode bb_M_init 30 = .ok (.aload_n 0, 1) := by decide +kernel
theorem dc_M_init_31 : decode bb_M_init 31 = .ok (.iconst 2, 1) := by decide +kernel
theorem dc_M_init_32 : decode bb_M_init 32 = .ok (.anewarray 25, 3) := by decide +kernel
theorem dc_M_init_35 : decode bb_M_init 35 = .ok (.putfield 27, 3) := by decide +kernel
theorem dc_M_init_38 : decode bb_M_init 38 = .ok (.iconst 0, 1) := by decide +kernel
theorem dc_M_init_39 : decode bb_M_init 39 = .ok (.istore_n 1, 1) := by decide +kernel
theorem dc_M_init_40 : decode bb_M_init 40 = .ok (.iload_n 1, 1) := by decide +kernel
theorem dc_M_init_41 : decode bb_M_init 41 = .ok (.iconst 2, 1) := by decide +kernel
theorem dc_M_init_42 : decode bb_M_init 42 = .ok (.if_icmp .ge 30, 3) := by decide +kernel
theorem dc_M_init_45 : decode bb_M_init 45 = .ok (.aload_n 0, 1) := by decide +kernel
theorem dc_M_init_46 : decode bb_M_init 46 = .ok (.getfield 27, 3) := by decide +kernel
theorem dc_M_init_49 : decode bb_M_init 49 = .ok (.iload_n 1, 1) := by decide +kernel
theorem dc_M_init_50 : decode bb_M_init 50 = .ok (.new 25, 3) := by decide +kernel
theorem dc_M_init_53 : decode bb_M_init 53 = .ok (.dup, 1) := by decide +kernel
theorem dc_M_init_54 : decode bb_M_init 54 = .ok (.aload_n 0, 1) := by decide +kernel
theorem dc_M_init_55 : decode bb_M_init 55 = .ok (.getfield 10, 3) := by decide +kernel
theorem dc_M_init_58 : decode bb_M_init 58 = .ok (.aload_n 0, 1) := by decide +kernel
theorem dc_M_init_59 : decode bb_M_init 59 = .ok (.getfield 21, 3) := by decide +kernel
theorem dc_M_init_62 : decode bb_M_init 62 = .ok (.invokespecial 31, 3) := by decide +kernel
theorem dc_M_init_65 : decode bb_M_init 65 = .ok (.aastore, 1) := by decide +kernel
theorem dc_M_init_66 : decode bb_M_init 66 = .ok (.iinc 1 1, 3) := by decide +kernel
theorem dc_M_init_69 : decode bb_M_init 69 = .ok (.goto (-29), 3) := by decide +kernel
theorem dc_M_init_72 : decode bb_M_init 72 = .ok (.aload_n 0, 1) := by decide +kernel
theorem dc_M_init_73 : decode bb_M_init 73 = .ok (.new 34, 3) := by decide +kernel
theorem dc_M_init_76 : decode bb_M_init 76 = .ok (.dup, 1) := by decide +kernel
theorem dc_M_init_77 : decode bb_M_init 77 = .ok (.aload_n 0, 1) := by decide +kernel
theorem dc_M_init_78 : decode bb_M_init 78 = .ok (.getfield 10, 3) := by decide +kernel
theorem dc_M_init_81 : decode bb_M_init 81 = .ok (.aload_n 0, 1) := by decide +kernel
theorem dc_M_init_82 : decode bb_M_init 82 = .ok (.getfield 21, 3) := by decide +kernel
theorem dc_M_init_85 : decode bb_M_init 85 = .ok (.invokespecial 36, 3) := by decide +kernel
theorem dc_M_init_88 : decode bb_M_init 88 = .ok (.putfield 37, 3) := by decide +kernel
theorem dc_M_init_91 : decode bb_M_init 91 = .ok (.aload_n 0, 1) := by decide +kernel
theorem dc_M_init_92 : decode bb_M_init 92 = .ok (.iconst 0, 1) := by decide +kernel
theorem dc_M_init_93 : decode bb_M_init 93 = .ok (.putfield 41, 3) := by decide +kernel
theorem dc_M_init_96 : decode bb_M_init 96 = .ok (.aload_n 0, 1) := by decide +kernel
theorem dc_M_init_97 : decode bb_M_init 97 = .ok (.iconst 0, 1) := by decide +kernel
theorem dc_M_init_98 : decode bb_M_init 98 = .ok (.putfield 45, 3) := by decide +kernel
theorem dc_M_init_101 : decode bb_M_init 101 = .ok (.aload_n 0, 1) := by decide +kernel
theorem dc_M_init_102 : decode bb_M_init 102 = .ok (.iconst 1, 1) := by decide +kernel
theorem dc_M_init_103 : decode bb_M_init 103 = .ok (.putfield 48, 3) := by decide +kernel
theorem dc_M_init_106 : decode bb_M_init 106 = .ok (.return_, 1) := by decide +kernel
theorem dc_B_init_0 : decode bb_B_init 0 = .ok (.aload_n 0, 1) := by decide +kernel
theorem dc_B_init_1 : decode bb_B_init 1 = .ok (.invokespecial 3, 3) := by decide +kernel
theorem dc_B_init_4 : decode bb_B_init 4 = .ok (.aload_n 0, 1) := by decide +kernel
theorem dc_B_init_5 : decode bb_B_init 5 = .ok (.sipush 1000, 3) := by decide +kernel
theorem dc_B_init_8 : decode bb_B_init 8 = .ok (.newarray .int, 2) := by decide +kernel
theorem dc_B_init_10 : decode bb_B_init 10 = .ok (.putfield 9, 3) := by decide +kernel
theorem dc_B_init_13 : decode bb_B_init 13 = .ok (.aload_n 0, 1) := by decide +kernel
theorem dc_B_init_14 : decode bb_B_init 14 = .ok (.iconst 0, 1) := by decide +kernel
theorem dc_B_init_15 : decode bb_B_init 15 = .ok (.putfield 15, 3) := by decide +kernel
theorem dc_B_init_18 : decode bb_B_init 18 = .ok (.return_, 1) := by decide +kernel
theorem dc_L_init_0 : decode bb_L_init 0 = .ok (.aload_n 0, 1) := by decide +kernel
theorem dc_L_init_1 : decode bb_L_init 1 = .ok (.invokespecial 3, 3) := by decide +kernel
theorem dc_L_init_4 : decode bb_L_init 4 = .ok (.aload_n 0, 1) := by decide +kernel
theorem dc_L_init_5 : decode bb_L_init 5 = .ok (.aload_n 1, 1) := by decide +kernel
theorem dc_L_init_6 : decode bb_L_init 6 = .ok (.putfield 9, 3) := by decide +kernel
theorem dc_L_init_9 : decode bb_L_init 9 = .ok (.aload_n 0, 1) := by decide +kernel
theorem dc_L_init_10 : decode bb_L_init 10 = .ok (.bipush 7, 2) := by decide +kernel
theorem dc_L_init_12 : decode bb_L_init 12 = .ok (.bipush 20, 2) := by decide +kernel
theorem dc_L_init_14 : decode bb_L_init 14 = .ok (.multianewarray 15 2, 4) := by decide +kernel
theorem dc_L_init_18 : decode bb_L_init 18 = .ok (.putfield 17, 3) := by decide +kernel
theorem dc_L_init_21 : decode bb_L_init 21 = .ok (.aload_n 0, 1) := by decide +kernel
theorem dc_L_init_22 : decode bb_L_init 22 = .ok (.iconst 0, 1) := by decide +kernel
theorem dc_L_init_23 : decode bb_L_init 23 = .ok (.putfield 20, 3) := by decide +kernel
theorem dc_L_init_26 : decode bb_L_init 26 = .ok (.return_, 1) := by decide +kernel
theorem dc_K_init_0 : decode bb_K_init 0 = .ok (.aload_n 0, 1) := by decide +kernel
theorem dc_K_init_1 : decode bb_K_init 1 = .ok (.invokespecial 3, 3) := by decide +kernel
theorem dc_K_init_4 : decode bb_K_init 4 = .ok (.aload_n 0, 1) := by decide +kernel
theorem dc_K_init_5 : decode bb_K_init 5 = .ok (.aload_n 2, 1) := by decide +kernel
theorem dc_K_init_6 : decode bb_K_init 6 = .ok (.putfield 9, 3) := by decide +kernel
theorem dc_K_init_9 : decode bb_K_init 9 = .ok (.aload_n 0, 1) := by decide +kernel
theorem dc_K_init_10 : decode bb_K_init 10 = .ok (.new 15, 3) := by decide +kernel
theorem dc_K_init_13 : decode bb_K_init 13 = .ok (.dup, 1) := by decide +kernel
theorem dc_K_init_14 : decode bb_K_init 14 = .ok (.aload_n 1, 1) := by decide +kernel
theorem dc_K_init_15 : decode bb_K_init 15 = .ok (.invokespecial 17, 3) := by decide +kernel
theorem dc_K_init_18 : decode bb_K_init 18 = .ok (.putfield 20, 3) := by decide +kernel
theorem dc_K_init_21 : decode bb_K_init 21 = .ok (.aload_n 0, 1) := by decide +kernel
theorem dc_K_init_22 : decode bb_K_init 22 = .ok (.new 15, 3) := by decide +kernel
theorem dc_K_init_25 : decode bb_K_init 25 = .ok (.dup, 1) := by decide +kernel
theorem dc_K_init_26 : decode bb_K_init 26 = .ok (.aload_n 1, 1) := by decide +kernel
theorem dc_K_init_27 : decode bb_K_init 27 = .ok (.invokespecial 17, 3) := by decide +kernel
theorem dc_K_init_30 : decode bb_K_init 30 = .ok (.putfield 24, 3) := by decide +kernel
theorem dc_K_init_33 : decode bb_K_init 33 = .ok (.aload_n 0, 1) := by decide +kernel
theorem dc_K_init_34 : decode bb_K_init 34 = .ok (.new 15, 3) := by decide +kernel
theorem dc_K_init_37 : decode bb_K_init 37 = .ok (.dup, 1) := by decide +kernel
theorem dc_K_init_38 : decode bb_K_init 38 = .ok (.aload_n 1, 1) := by decide +kernel
theorem dc_K_init_39 : decode bb_K_init 39 = .ok (.invokespecial 17, 3) := by decide +kernel
theorem dc_K_init_42 : decode bb_K_init 42 = .ok (.putfield 27, 3) := by decide +kernel
theorem dc_K_init_45 : decode bb_K_init 45 = .ok (.aload_n 0, 1) := by decide +kernel
theorem dc_K_init_46 : decode bb_K_init 46 = .ok (.new 15, 3) := by decide +kernel
theorem dc_K_init_49 : decode bb_K_init 49 = .ok (.dup, 1) := by decide +kernel
theorem dc_K_init_50 : decode bb_K_init 50 = .ok (.aload_n 1, 1) := by decide +kernel
theorem dc_K_init_51 : decode bb_K_init 51 = .ok (.invokespecial 17, 3) := by decide +kernel
theorem dc_K_init_54 : decode bb_K_init 54 = .ok (.putfield 30, 3) := by decide +kernel
theorem dc_K_init_57 : decode bb_K_init 57 = .ok (.aload_n 0, 1) := by decide +kernel
theorem dc_K_init_58 : decode bb_K_init 58 = .ok (.new 15, 3) := by decide +kernel
theorem dc_K_init_61 : decode bb_K_init 61 = .ok (.dup, 1) := by decide +kernel
theorem dc_K_init_62 : decode bb_K_init 62 = .ok (.aload_n 1, 1) := by decide +kernel
theorem dc_K_init_63 : decode bb_K_init 63 = .ok (.invokespecial 17, 3) := by decide +kernel
theorem dc_K_init_66 : decode bb_K_init 66 = .ok (.putfield 33, 3) := by decide +kernel
theorem dc_K_init_69 : decode bb_K_init 69 = .ok (.aload_n 0, 1) := by decide +kernel
theorem dc_K_init_70 : decode bb_K_init 70 = .ok (.new 15, 3) := by decide +kernel
theorem dc_K_init_73 : decode bb_K_init 73 = .ok (.dup, 1) := by decide +kernel
theorem dc_K_init_74 : decode bb_K_init 74 = .ok (.aload_n 1, 1) := by decide +kernel
theorem dc_K_init_75 : decode bb_K_init 75 = .ok (.invokespecial 17, 3) := by decide +kernel
theorem dc_K_init_78 : decode bb_K_init 78 = .ok (.putfield 36, 3) := by decide +kernel
theorem dc_K_init_81 : decode bb_K_init 81 = .ok (.aload_n 0, 1) := by decide +kernel
theorem dc_K_init_82 : decode bb_K_init 82 = .ok (.new 39, 3) := by decide +kernel
theorem dc_K_init_85 : decode bb_K_init 85 = .ok (.dup, 1) := by decide +kernel
theorem dc_K_init_86 : decode bb_K_init 86 = .ok (.aload_n 1, 1) := by decide +kernel
theorem dc_K_init_87 : decode bb_K_init 87 = .ok (.invokespecial 41, 3) := by decide +kernel
theorem dc_K_init_90 : decode bb_K_init 90 = .ok (.putfield 42, 3) := by decide +kernel
theorem dc_K_init_93 : decode bb_K_init 93 = .ok (.aload_n 0, 1) := by decide +kernel
theorem dc_K_init_94 : decode bb_K_init 94 = .ok (.bipush 7, 2) := by decide +kernel
theorem dc_K_init_96 : decode bb_K_init 96 = .ok (.sipush 255, 3) := by decide +kernel
theorem dc_K_init_99 : decode bb_K_init 99 = .ok (.multianewarray 46 2, 4) := by decide +kernel
theorem dc_K_init_103 : decode bb_K_init 103 = .ok (.putfield 48, 3) := by decide +kernel
theorem dc_K_init_106 : decode bb_K_init 106 = .ok (.aload_n 0, 1) := by decide +kernel
theorem dc_K_init_107 : decode bb_K_init 107 = .ok (.iconst 0, 1) := by decide +kernel
theorem dc_K_init_108 : decode bb_K_init 108 = .ok (.putfield 51, 3) := by decide +kernel
theorem dc_K_init_111 : decode bb_K_init 111 = .ok (.return_, 1) := by decide +kernel
theorem dc_T_init_0 : decode bb_T_init 0 = .ok (.aload_n 0, 1) := by decide +kernel
theorem dc_T_init_1 : decode bb_T_init 1 = .ok (.invokespecial 1, 3) := by decide +kernel
theorem dc_T_init_4 : decode bb_T_init 4 = .ok (.aload_n 0, 1) := by decide +kernel
theorem dc_T_init_5 : decode bb_T_init 5 = .ok (.aload_n 1, 1) := by decide +kernel
theorem dc_T_init_6 : decode bb_T_init 6 = .ok (.putfield 7, 3) := by decide +kernel
theorem dc_T_init_9 : decode bb_T_init 9 = .ok (.aload_n 0, 1) := by decide +kernel
theorem dc_T_init_10 : decode bb_T_init 10 = .ok (.iconst 0, 1) := by decide +kernel
theorem dc_T_init_11 : decode bb_T_init 11 = .ok (.putfield 13, 3) := by decide +kernel
theorem dc_T_init_14 : decode bb_T_init 14 = .ok (.aload_n 0, 1) := by decide +kernel
theorem dc_T_init_15 : decode bb_T_init 15 = .ok (.iconst 0, 1) := by decide +kernel
theorem dc_T_init_16 : decode bb_T_init 16 = .ok (.putfield 17, 3) := by decide +kernel
theorem dc_T_init_19 : decode bb_T_init 19 = .ok (.aload_n 0, 1) := by decide +kernel
theorem dc_T_init_20 : decode bb_T_init 20 = .ok (.iconst 0, 1) := by decide +kernel
theorem dc_T_init_21 : decode bb_T_init 21 = .ok (.putfield 21, 3) := by decide +kernel
theorem dc_T_init_24 : decode bb_T_init 24 = .ok (.aload_n 0, 1) := by decide +kernel
theorem dc_T_init_25 : decode bb_T_init 25 = .ok (.iconst 0, 1) := by decide +kernel
theorem dc_T_init_26 : decode bb_T_init 26 = .ok (.putfield 24, 3) := by decide +kernel
theorem dc_T_init_29 : decode bb_T_init 29 = .ok (.aload_n 0, 1) := by decide +kernel
theorem dc_T_init_30 : decode bb_T_init 30 = .ok (.iconst 0, 1) := by decide +kernel
theorem dc_T_init_31 : decode bb_T_init 31 = .ok (.putfield 27, 3) := by decide +kernel
theorem dc_T_init_34 : decode bb_T_init 34 = .ok (.return_, 1) := by decide +kernel
theorem dc_Z_init_0 : decode bb_Z_init 0 = .ok (.aload_n 0, 1) := by decide +kernel
theorem dc_Z_init_1 : decode bb_Z_init 1 = .ok (.invokespecial 1, 3) := by decide +kernel
theorem dc_Z_init_4 : decode bb_Z_init 4 = .ok (.aload_n 0, 1) := by decide +kernel
theorem dc_Z_init_5 : decode bb_Z_init 5 = .ok (.aload_n 1, 1) := by decide +kernel
theorem dc_Z_init_6 : decode bb_Z_init 6 = .ok (.putfield 7, 3) := by decide +kernel
theorem dc_Z_init_9 : decode bb_Z_init 9 = .ok (.aload_n 0, 1) := by decide +kernel
theorem dc_Z_init_10 : decode bb_Z_init 10 = .ok (.iconst 0, 1) := by decide +kernel
theorem dc_Z_init_11 : decode bb_Z_init 11 = .ok (.putfield 13, 3) := by decide +kernel
theorem dc_Z_init_14 : decode bb_Z_init 14 = .ok (.aload_n 0, 1) := by decide +kernel
theorem dc_Z_init_15 : decode bb_Z_init 15 = .ok (.iconst 0, 1) := by decide +kernel
theorem dc_Z_init_16 : decode bb_Z_init 16 = .ok (.putfield 17, 3) := by decide +kernel
theorem dc_Z_init_19 : decode bb_Z_init 19 = .ok (.aload_n 0, 1) := by decide +kernel
theorem dc_Z_init_20 : decode bb_Z_init 20 = .ok (.iconst 0, 1) := by decide +kernel
theorem dc_Z_init_21 : decode bb_Z_init 21 = .ok (.putfield 20, 3) := by decide +kernel
theorem dc_Z_init_24 : decode bb_Z_init 24 = .ok (.aload_n 0, 1) := by decide +kernel
theorem dc_Z_init_25 : decode bb_Z_init 25 = .ok (.iconst 0, 1) := by decide +kernel
theorem dc_Z_init_26 : decode bb_Z_init 26 = .ok (.putfield 23, 3) := by decide +kernel
theorem dc_Z_init_29 : decode bb_Z_init 29 = .ok (.return_, 1) := by decide +kernel
theorem dc_V_init_0 : decode bb_V_init 0 = .ok (.aload_n 0, 1) := by decide +kernel
theorem dc_V_init_1 : decode bb_V_init 1 = .ok (.invokespecial 3, 3) := by decide +kernel
theorem dc_V_init_4 : decode bb_V_init 4 = .ok (.aload_n 0, 1) := by decide +kernel
theorem dc_V_init_5 : decode bb_V_init 5 = .ok (.aload_n 1, 1) := by decide +kernel
theorem dc_V_init_6 : decode bb_V_init 6 = .ok (.putfield 9, 3) := by decide +kernel
theorem dc_V_init_9 : decode bb_V_init 9 = .ok (.aload_n 0, 1) := by decide +kernel
theorem dc_V_init_10 : decode bb_V_init 10 = .ok (.aload_n 2, 1) := by decide +kernel
theorem dc_V_init_11 : decode bb_V_init 11 = .ok (.putfield 15, 3) := by decide +kernel
theorem dc_V_init_14 : decode bb_V_init 14 = .ok (.aload_n 0, 1) := by decide +kernel
theorem dc_V_init_15 : decode bb_V_init 15 = .ok (.new 19, 3) := by decide +kernel
theorem dc_V_init_18 : decode bb_V_init 18 = .ok (.dup, 1) := by decide +kernel
theorem dc_V_init_19 : decode bb_V_init 19 = .ok (.invokespecial 21, 3) := by decide +kernel
theorem dc_V_init_22 : decode bb_V_init 22 = .ok (.putfield 22, 3) := by decide +kernel
theorem dc_V_init_25 : decode bb_V_init 25 = .ok (.aload_n 0, 1) := by decide +kernel
theorem dc_V_init_26 : decode bb_V_init 26 = .ok (.bipush 20, 2) := by decide +kernel
theorem dc_V_init_28 : decode bb_V_init 28 = .ok (.newarray .boolean, 2) := by decide +kernel
theorem dc_V_init_30 : decode bb_V_init 30 = .ok (.putfield 25, 3) := by decide +kernel
theorem dc_V_init_33 : decode bb_V_init 33 = .ok (.aload_n 0, 1) := by decide +kernel
theorem dc_V_init_34 : decode bb_V_init 34 = .ok (.bipush 20, 2) := by decide +kernel
theorem dc_V_init_36 : decode bb_V_init 36 = .ok (.newarray .int, 2) := by decide +kernel
theorem dc_V_init_38 : decode bb_V_init 38 = .ok (.putfield 29, 3) := by decide +kernel
theorem dc_V_init_41 : decode bb_V_init 41 = .ok (.aload_n 0, 1) := by decide +kernel
theorem dc_V_init_42 : decode bb_V_init 42 = .ok (.bipush 20, 2) := by decide +kernel
theorem dc_V_init_44 : decode bb_V_init 44 = .ok (.newarray .int, 2) := by decide +kernel
theorem dc_V_init_46 : decode bb_V_init 46 = .ok (.putfield 33, 3) := by decide +kernel
theorem dc_V_init_49 : decode bb_V_init 49 = .ok (.aload_n 0, 1) := by decide +kernel
theorem dc_V_init_50 : decode bb_V_init 50 = .ok (.iconst 0, 1) := by decide +kernel
theorem dc_V_init_51 : decode bb_V_init 51 = .ok (.putfield 36, 3) := by decide +kernel
theorem dc_V_init_54 : decode bb_V_init 54 = .ok (.aload_n 0, 1) := by decide +kernel
theorem dc_V_init_55 : decode bb_V_init 55 = .ok (.iconst 0, 1) := by decide +kernel
theorem dc_V_init_56 : decode bb_V_init 56 = .ok (.putfield 40, 3) := by decide +kernel
theorem dc_V_init_59 : decode bb_V_init 59 = .ok (.return_, 1) := by decide +kernel
theorem dc_M_append_0 : decode bb_M_append 0 = .ok (.iload_n 3, 1) := by decide +kernel
theorem dc_M_append_1 : decode bb_M_append 1 = .ok (.iconst 1, 1) := by decide +kernel
theorem dc_M_append_2 : decode bb_M_append 2 = .ok (.if_icmp .lt 9, 3) := by decide +kernel
theorem dc_M_append_5 : decode bb_M_append 5 = .ok (.iload_n 3, 1) := by decide +kernel
theorem dc_M_append_6 : decode bb_M_append 6 = .ok (.bipush 8, 2) := by decide +kernel
theorem dc_M_append_8 : decode bb_M_append 8 = .ok (.if_icmp .le 5, 3) := by decide +kernel
theorem dc_M_append_11 : decode bb_M_append 11 = .ok (.iconst (-1), 1) := by decide +kernel
theorem dc_M_append_12 : decode bb_M_append 12 = .ok (.ireturn, 1) := by decide +kernel
theorem dc_M_append_13 : decode bb_M_append 13 = .ok (.aload_n 0, 1) := by decide +kernel
theorem dc_M_append_14 : decode bb_M_append 14 = .ok (.getfield 10, 3) := by decide +kernel
theorem dc_M_append_17 : decode bb_M_append 17 = .ok (.invokevirtual 52, 3) := by decide +kernel
theorem dc_M_append_20 : decode bb_M_append 20 = .ok (.iload_n 3, 1) := by decide +kernel
theorem dc_M_append_21 : decode bb_M_append 21 = .ok (.iadd, 1) := by decide +kernel
theorem dc_M_append_22 : decode bb_M_append 22 = .ok (.sipush 1000, 3) := by decide +kernel
theorem dc_M_append_25 : decode bb_M_append 25 = .ok (.if_icmp .le 6, 3) := by decide +kernel
theorem dc_M_append_28 : decode bb_M_append 28 = .ok (.bipush (-2), 2) := by decide +kernel
theorem dc_M_append_30 : decode bb_M_append 30 = .ok (.ireturn, 1) := by decide +kernel
theorem dc_M_append_31 : decode bb_M_append 31 = .ok (.iload_n 3, 1) := by decide +kernel
theorem dc_M_append_32 : decode bb_M_append 32 = .ok (.iconst 1, 1) := by decide +kernel
theorem dc_M_append_33 : decode bb_M_append 33 = .ok (.isub, 1) := by decide +kernel
theorem dc_M_append_34 : decode bb_M_append 34 = .ok (.istore 4, 2) := by decide +kernel
theorem dc_M_append_36 : decode bb_M_append 36 = .ok (.iload 4, 2) := by decide +kernel
theorem dc_M_append_38 : decode bb_M_append 38 = .ok (.ifCond .lt 24, 3) := by decide +kernel
theorem dc_M_append_41 : decode bb_M_append 41 = .ok (.aload_n 0, 1) := by decide +kernel
theorem dc_M_append_42 : decode bb_M_append 42 = .ok (.getfield 10, 3) := by decide +kernel
theorem dc_M_append_45 : decode bb_M_append 45 = .ok (.lload_n 1, 1) := by decide +kernel
theorem dc_M_append_46 : decode bb_M_append 46 = .ok (.bipush 8, 2) := by decide +kernel
theorem dc_M_append_48 : decode bb_M_append 48 = .ok (.iload 4, 2) := by decide +kernel
theorem dc_M_append_50 : decode bb_M_append 50 = .ok (.imul, 1) := by decide +kernel
theorem dc_M_append_51 : decode bb_M_append 51 = .ok (.lshr, 1) := by decide +kernel
theorem dc_M_append_52 : decode bb_M_append 52 = .ok (.l2i, 1) := by decide +kernel
theorem dc_M_append_53 : decode bb_M_append 53 = .ok (.invokevirtual 56, 3) := by decide +kernel
theorem dc_M_append_56 : decode bb_M_append 56 = .ok (.iinc 4 (-1), 3) := by decide +kernel
theorem dc_M_append_59 : decode bb_M_append 59 = .ok (.goto (-23), 3) := by decide +kernel
theorem dc_M_append_62 : decode bb_M_append 62 = .ok (.aload_n 0, 1) := by decide +kernel
theorem dc_M_append_63 : decode bb_M_append 63 = .ok (.iconst 1, 1) := by decide +kernel
theorem dc_M_append_64 : decode bb_M_append 64 = .ok (.putfield 48, 3) := by decide +kernel
theorem dc_M_append_67 : decode bb_M_append 67 = .ok (.aload_n 0, 1) := by decide +kernel
theorem dc_M_append_68 : decode bb_M_append 68 = .ok (.getfield 10, 3) := by decide +kernel
theorem dc_M_append_71 : decode bb_M_append 71 = .ok (.invokevirtual 52, 3) := by decide +kernel
theorem dc_M_append_74 : decode bb_M_append 74 = .ok (.ireturn, 1) := by decide +kernel
theorem dc_B_size_0 : decode bb_B_size 0 = .ok (.aload_n 0, 1) := by decide +kernel
theorem dc_B_size_1 : decode bb_B_size 1 = .ok (.getfield 15, 3) := by decide +kernel
theorem dc_B_size_4 : decode bb_B_size 4 = .ok (.ireturn, 1) := by decide +kernel
theorem dc_B_add_0 : decode bb_B_add 0 = .ok (.aload_n 0, 1) := by decide +kernel
theorem dc_B_add_1 : decode bb_B_add 1 = .ok (.getfield 15, 3) := by decide +kernel
theorem dc_B_add_4 : decode bb_B_add 4 = .ok (.sipush 1000, 3) := by decide +kernel
theorem dc_B_add_7 : decode bb_B_add 7 = .ok (.if_icmp .ge 27, 3) := by decide +kernel
theorem dc_B_add_10 : decode bb_B_add 10 = .ok (.aload_n 0, 1) := by decide +kernel
theorem dc_B_add_11 : decode bb_B_add 11 = .ok (.getfield 9, 3) := by decide +kernel
theorem dc_B_add_14 : decode bb_B_add 14 = .ok (.aload_n 0, 1) := by decide +kernel
theorem dc_B_add_15 : decode bb_B_add 15 = .ok (.getfield 15, 3) := by decide +kernel
theorem dc_B_add_18 : decode bb_B_add 18 = .ok (.iload_n 1, 1) := by decide +kernel
theorem dc_B_add_19 : decode bb_B_add 19 = .ok (.sipush 255, 3) := by decide +kernel
theorem dc_B_add_22 : decode bb_B_add 22 = .ok (.iand, 1) := by decide +kernel
theorem dc_B_add_23 : decode bb_B_add 23 = .ok (.iastore, 1) := by decide +kernel
theorem dc_B_add_24 : decode bb_B_add 24 = .ok (.aload_n 0, 1) := by decide +kernel
theorem dc_B_add_25 : decode bb_B_add 25 = .ok (.dup, 1) := by decide +kernel
theorem dc_B_add_26 : decode bb_B_add 26 = .ok (.getfield 15, 3) := by decide +kernel
theorem dc_B_add_29 : decode bb_B_add 29 = .ok (.iconst 1, 1) := by decide +kernel
theorem dc_B_add_30 : decode bb_B_add 30 = .ok (.iadd, 1) := by decide +kernel
theorem dc_B_add_31 : decode bb_B_add 31 = .ok (.putfield 15, 3) := by decide +kernel
theorem dc_B_add_34 : decode bb_B_add 34 = .ok (.return_, 1) := by decide +kernel
theorem dc_M_poke_0 : decode bb_M_poke 0 = .ok (.aload_n 0, 1) := by decide +kernel
theorem dc_M_poke_1 : decode bb_M_poke 1 = .ok (.getfield 10, 3) := by decide +kernel
theorem dc_M_poke_4 : decode bb_M_poke 4 = .ok (.iload_n 1, 1) := by decide +kernel
theorem dc_M_poke_5 : decode bb_M_poke 5 = .ok (.invokevirtual 60, 3) := by decide +kernel
theorem dc_M_poke_8 : decode bb_M_poke 8 = .ok (.ifCond .eq 14, 3) := by decide +kernel
theorem dc_M_poke_11 : decode bb_M_poke 11 = .ok (.iload_n 2, 1) := by decide +kernel
theorem dc_M_poke_12 : decode bb_M_poke 12 = .ok (.ifCond .lt 10, 3) := by decide +kernel
theorem dc_M_poke_15 : decode bb_M_poke 15 = .ok (.iload_n 2, 1) := by decide +kernel
theorem dc_M_poke_16 : decode bb_M_poke 16 = .ok (.sipush 255, 3) := by decide +kernel
theorem dc_M_poke_19 : decode bb_M_poke 19 = .ok (.if_icmp .le 7, 3) := by decide +kernel
theorem dc_M_poke_22 : decode bb_M_poke 22 = .ok (.sipush (-1000), 3) := by decide +kernel
theorem dc_M_poke_25 : decode bb_M_poke 25 = .ok (.ireturn, 1) := by decide +kernel
theorem dc_M_poke_26 : decode bb_M_poke 26 = .ok (.aload_n 0, 1) := by decide +kernel
theorem dc_M_poke_27 : decode bb_M_poke 27 = .ok (.getfield 10, 3) := by decide +kernel
theorem dc_M_poke_30 : decode bb_M_poke 30 = .ok (.iload_n 1, 1) := by decide +kernel
theorem dc_M_poke_31 : decode bb_M_poke 31 = .ok (.invokevirtual 64, 3) := by decide +kernel
theorem dc_M_poke_34 : decode bb_M_poke 34 = .ok (.istore_n 3, 1) := by decide +kernel
theorem dc_M_poke_35 : decode bb_M_poke 35 = .ok (.aload_n 0, 1) := by decide +kernel
theorem dc_M_poke_36 : decode bb_M_poke 36 = .ok (.getfield 10, 3) := by decide +kernel
theorem dc_M_poke_39 : decode bb_M_poke 39 = .ok (.iload_n 1, 1) := by decide +kernel
theorem dc_M_poke_40 : decode bb_M_poke 40 = .ok (.iload_n 2, 1) := by decide +kernel
theorem dc_M_poke_41 : decode bb_M_poke 41 = .ok (.invokevirtual 68, 3) := by decide +kernel
theorem dc_M_poke_44 : decode bb_M_poke 44 = .ok (.aload_n 0, 1) := by decide +kernel
theorem dc_M_poke_45 : decode bb_M_poke 45 = .ok (.iconst 1, 1) := by decide +kernel
theorem dc_M_poke_46 : decode bb_M_poke 46 = .ok (.putfield 48, 3) := by decide +kernel
theorem dc_M_poke_49 : decode bb_M_poke 49 = .ok (.iload_n 3, 1) := by decide +kernel
theorem dc_M_poke_50 : decode bb_M_poke 50 = .ok (.ireturn, 1) := by decide +kernel
theorem dc_B_has_0 : decode bb_B_has 0 = .ok (.iload_n 1, 1) := by decide +kernel
theorem dc_B_has_1 : decode bb_B_has 1 = .ok (.ifCond .lt 15, 3) := by decide +kernel
theorem dc_B_has_4 : decode bb_B_has 4 = .ok (.iload_n 1, 1) := by decide +kernel
theorem dc_B_has_5 : decode bb_B_has 5 = .ok (.aload_n 0, 1) := by decide +kernel
theorem dc_B_has_6 : decode bb_B_has 6 = .ok (.getfield 15, 3) := by decide +kernel
theorem dc_B_has_9 : decode bb_B_has 9 = .ok (.if_icmp .ge 7, 3) := by decide +kernel
theorem dc_B_has_12 : decode bb_B_has 12 = .ok (.iconst 1, 1) := by decide +kernel
theorem dc_B_has_13 : decode bb_B_has 13 = .ok (.goto 4, 3) := by decide +kernel
theorem dc_B_has_16 : decode bb_B_has 16 = .ok (.iconst 0, 1) := by decide +kernel
theorem dc_B_has_17 : decode bb_B_has 17 = .ok (.ireturn, 1) := by decide +kernel
theorem dc_B_at_0 : decode bb_B_at 0 = .ok (.iload_n 1, 1) := by decide +kernel
theorem dc_B_at_1 : decode bb_B_at 1 = .ok (.ifCond .lt 20, 3) := by decide +kernel
theorem dc_B_at_4 : decode bb_B_at 4 = .ok (.iload_n 1, 1) := by decide +kernel
theorem dc_B_at_5 : decode bb_B_at 5 = .ok (.aload_n 0, 1) := by decide +kernel
theorem dc_B_at_6 : decode bb_B_at 6 = .ok (.getfield 15, 3) := by decide +kernel
theorem dc_B_at_9 : decode bb_B_at 9 = .ok (.if_icmp .ge 12, 3) := by decide +kernel
theorem dc_B_at_12 : decode bb_B_at 12 = .ok (.aload_n 0, 1) := by decide +kernel
theorem dc_B_at_13 : decode bb_B_at 13 = .ok (.getfield 9, 3) := by decide +kernel
theorem dc_B_at_16 : decode bb_B_at 16 = .ok (.iload_n 1, 1) := by decide +kernel
theorem dc_B_at_17 : decode bb_B_at 17 = .ok (.iaload, 1) := by decide +kernel
theorem dc_B_at_18 : decode bb_B_at 18 = .ok (.goto 6, 3) := by decide +kernel
theorem dc_B_at_21 : decode bb_B_at 21 = .ok (.sipush (-1000), 3) := by decide +kernel
theorem dc_B_at_24 : decode bb_B_at 24 = .ok (.ireturn, 1) := by decide +kernel
theorem dc_B_put_0 : decode bb_B_put 0 = .ok (.aload_n 0, 1) := by decide +kernel
theorem dc_B_put_1 : decode bb_B_put 1 = .ok (.iload_n 1, 1) := by decide +kernel
theorem dc_B_put_2 : decode bb_B_put 2 = .ok (.invokevirtual 19, 3) := by decide +kernel
theorem dc_B_put_5 : decode bb_B_put 5 = .ok (.ifCond .eq 14, 3) := by decide +kernel
theorem dc_B_put_8 : decode bb_B_put 8 = .ok (.aload_n 0, 1) := by decide +kernel
theorem dc_B_put_9 : decode bb_B_put 9 = .ok (.getfield 9, 3) := by decide +kernel
theorem dc_B_put_12 : decode bb_B_put 12 = .ok (.iload_n 1, 1) := by decide +kernel
theorem dc_B_put_13 : decode bb_B_put 13 = .ok (.iload_n 2, 1) := by decide +kernel
theorem dc_B_put_14 : decode bb_B_put 14 = .ok (.sipush 255, 3) := by decide +kernel
theorem dc_B_put_17 : decode bb_B_put 17 = .ok (.iand, 1) := by decide +kernel
theorem dc_B_put_18 : decode bb_B_put 18 = .ok (.iastore, 1) := by decide +kernel
theorem dc_B_put_19 : decode bb_B_put 19 = .ok (.return_, 1) := by decide +kernel
theorem dc_M_cut_0 : decode bb_M_cut 0 = .ok (.iload_n 1, 1) := by decide +kernel
theorem dc_M_cut_1 : decode bb_M_cut 1 = .ok (.ifCond .lt 14, 3) := by decide +kernel
theorem dc_M_cut_4 : decode bb_M_cut 4 = .ok (.iload_n 1, 1) := by decide +kernel
theorem dc_M_cut_5 : decode bb_M_cut 5 = .ok (.aload_n 0, 1) := by decide +kernel
theorem dc_M_cut_6 : decode bb_M_cut 6 = .ok (.getfield 10, 3) := by decide +kernel
theorem dc_M_cut_9 : decode bb_M_cut 9 = .ok (.invokevirtual 52, 3) := by decide +kernel
theorem dc_M_cut_12 : decode bb_M_cut 12 = .ok (.if_icmp .le 5, 3) := by decide +kernel
theorem dc_M_cut_15 : decode bb_M_cut 15 = .ok (.iconst 0, 1) := by decide +kernel
theorem dc_M_cut_16 : decode bb_M_cut 16 = .ok (.ireturn, 1) := by decide +kernel
theorem dc_M_cut_17 : decode bb_M_cut 17 = .ok (.aload_n 0, 1) := by decide +kernel
theorem dc_M_cut_18 : decode bb_M_cut 18 = .ok (.getfield 10, 3) := by decide +kernel
theorem dc_M_cut_21 : decode bb_M_cut 21 = .ok (.iload_n 1, 1) := by decide +kernel
theorem dc_M_cut_22 : decode bb_M_cut 22 = .ok (.invokevirtual 72, 3) := by decide +kernel
theorem dc_M_cut_25 : decode bb_M_cut 25 = .ok (.aload_n 0, 1) := by decide +kernel
theorem dc_M_cut_26 : decode bb_M_cut 26 = .ok (.iconst 1, 1) := by decide +kernel
theorem dc_M_cut_27 : decode bb_M_cut 27 = .ok (.putfield 48, 3) := by decide +kernel
theorem dc_M_cut_30 : decode bb_M_cut 30 = .ok (.iconst 1, 1) := by decide +kernel
theorem dc_M_cut_31 : decode bb_M_cut 31 = .ok (.ireturn, 1) := by decide +kernel
theorem dc_B_keep_0 : decode bb_B_keep 0 = .ok (.iload_n 1, 1) := by decide +kernel
theorem dc_B_keep_1 : decode bb_B_keep 1 = .ok (.ifCond .lt 16, 3) := by decide +kernel
theorem dc_B_keep_4 : decode bb_B_keep 4 = .ok (.iload_n 1, 1) := by decide +kernel
theorem dc_B_keep_5 : decode bb_B_keep 5 = .ok (.aload_n 0, 1) := by decide +kernel
theorem dc_B_keep_6 : decode bb_B_keep 6 = .ok (.getfield 15, 3) := by decide +kernel
theorem dc_B_keep_9 : decode bb_B_keep 9 = .ok (.if_icmp .gt 8, 3) := by decide +kernel
theorem dc_B_keep_12 : decode bb_B_keep 12 = .ok (.aload_n 0, 1) := by decide +kernel
theorem dc_B_keep_13 : decode bb_B_keep 13 = .ok (.iload_n 1, 1) := by decide +kernel
theorem dc_B_keep_14 : decode bb_B_keep 14 = .ok (.putfield 15, 3) := by decide +kernel
theorem dc_B_keep_17 : decode bb_B_keep 17 = .ok (.return_, 1) := by decide +kernel
theorem dc_M_length_0 : decode bb_M_length 0 = .ok (.aload_n 0, 1) := by decide +kernel
theorem dc_M_length_1 : decode bb_M_length 1 = .ok (.getfield 10, 3) := by decide +kernel
theorem dc_M_length_4 : decode bb_M_length 4 = .ok (.invokevirtual 52, 3) := by decide +kernel
theorem dc_M_length_7 : decode bb_M_length 7 = .ok (.ireturn, 1) := by decide +kernel
theorem dc_M_peek_0 : decode bb_M_peek 0 = .ok (.aload_n 0, 1) := by decide +kernel
theorem dc_M_peek_1 : decode bb_M_peek 1 = .ok (.getfield 10, 3) := by decide +kernel
theorem dc_M_peek_4 : decode bb_M_peek 4 = .ok (.iload_n 1, 1) := by decide +kernel
theorem dc_M_peek_5 : decode bb_M_peek 5 = .ok (.invokevirtual 64, 3) := by decide +kernel
theorem dc_M_peek_8 : decode bb_M_peek 8 = .ok (.ireturn, 1) := by decide +kernel
theorem dc_M_check_0 : decode bb_M_check 0 = .ok (.aload_n 0, 1) := by decide +kernel
theorem dc_M_check_1 : decode bb_M_check 1 = .ok (.invokevirtual 75, 3) := by decide +kernel
theorem dc_M_check_4 : decode bb_M_check 4 = .ok (.aload_n 0, 1) := by decide +kernel
theorem dc_M_check_5 : decode bb_M_check 5 = .ok (.getfield 45, 3) := by decide +kernel
theorem dc_M_check_8 : decode bb_M_check 8 = .ok (.ireturn, 1) := by decide +kernel
theorem dc_M_look_0 : decode bb_M_look 0 = .ok (.aload_n 0, 1) := by decide +kernel
theorem dc_M_look_1 : decode bb_M_look 1 = .ok (.getfield 48, 3) := by decide +kernel
theorem dc_M_look_4 : decode bb_M_look 4 = .ok (.ifCond .ne 4, 3) := by decide +kernel
theorem dc_M_look_7 : decode bb_M_look 7 = .ok (.return_, 1) := by decide +kernel
theorem dc_M_look_8 : decode bb_M_look 8 = .ok (.aload_n 0, 1) := by decide +kernel
theorem dc_M_look_9 : decode bb_M_look 9 = .ok (.iconst 0, 1) := by decide +kernel
theorem dc_M_look_10 : decode bb_M_look 10 = .ok (.putfield 48, 3) := by decide +kernel
theorem dc_M_look_13 : decode bb_M_look 13 = .ok (.aload_n 0, 1) := by decide +kernel
theorem dc_M_look_14 : decode bb_M_look 14 = .ok (.iconst 0, 1) := by decide +kernel
theorem dc_M_look_15 : decode bb_M_look 15 = .ok (.putfield 41, 3) := by decide +kernel
theorem dc_M_look_18 : decode bb_M_look 18 = .ok (.aload_n 0, 1) := by decide +kernel
theorem dc_M_look_19 : decode bb_M_look 19 = .ok (.aload_n 0, 1) := by decide +kernel
theorem dc_M_look_20 : decode bb_M_look 20 = .ok (.getfield 21, 3) := by decide +kernel
theorem dc_M_look_23 : decode bb_M_look 23 = .ok (.invokevirtual 104, 3) := by decide +kernel
theorem dc_M_look_26 : decode bb_M_look 26 = .ok (.putfield 45, 3) := by decide +kernel
theorem dc_M_look_29 : decode bb_M_look 29 = .ok (.aload_n 0, 1) := by decide +kernel
theorem dc_M_look_30 : decode bb_M_look 30 = .ok (.getfield 45, 3) := by decide +kernel
theorem dc_M_look_33 : decode bb_M_look 33 = .ok (.ifCond .ne 18, 3) := by decide +kernel
theorem dc_M_look_36 : decode bb_M_look 36 = .ok (.aload_n 0, 1) := by decide +kernel
theorem dc_M_look_37 : decode bb_M_look 37 = .ok (.getfield 21, 3) := by decide +kernel
theorem dc_M_look_40 : decode bb_M_look 40 = .ok (.invokevirtual 107, 3) := by decide +kernel
theorem dc_M_look_43 : decode bb_M_look 43 = .ok (.ifCond .ne 8, 3) := by decide +kernel
theorem dc_M_look_46 : decode bb_M_look 46 = .ok (.aload_n 0, 1) := by decide +kernel
theorem dc_M_look_47 : decode bb_M_look 47 = .ok (.iconst 3, 1) := by decide +kernel
theorem dc_M_look_48 : decode bb_M_look 48 = .ok (.putfield 45, 3) := by decide +kernel
theorem dc_M_look_51 : decode bb_M_look 51 = .ok (.aload_n 0, 1) := by decide +kernel
theorem dc_M_look_52 : decode bb_M_look 52 = .ok (.getfield 45, 3) := by decide +kernel
theorem dc_M_look_55 : decode bb_M_look 55 = .ok (.ifCond .ne 15, 3) := by decide +kernel
theorem dc_M_look_58 : decode bb_M_look 58 = .ok (.aload_n 0, 1) := by decide +kernel
theorem dc_M_look_59 : decode bb_M_look 59 = .ok (.invokevirtual 110, 3) := by decide +kernel
theorem dc_M_look_62 : decode bb_M_look 62 = .ok (.aload_n 0, 1) := by decide +kernel
theorem dc_M_look_63 : decode bb_M_look 63 = .ok (.aload_n 0, 1) := by decide +kernel
theorem dc_M_look_64 : decode bb_M_look 64 = .ok (.invokevirtual 113, 3) := by decide +kernel
theorem dc_M_look_67 : decode bb_M_look 67 = .ok (.putfield 45, 3) := by decide +kernel
theorem dc_M_look_70 : decode bb_M_look 70 = .ok (.iconst 0, 1) := by decide +kernel
theorem dc_M_look_71 : decode bb_M_look 71 = .ok (.istore_n 1, 1) := by decide +kernel
theorem dc_M_look_72 : decode bb_M_look 72 = .ok (.iload_n 1, 1) := by decide +kernel
theorem dc_M_look_73 : decode bb_M_look 73 = .ok (.aload_n 0, 1) := by decide +kernel
theorem dc_M_look_74 : decode bb_M_look 74 = .ok (.getfield 41, 3) := by decide +kernel
theorem dc_M_look_77 : decode bb_M_look 77 = .ok (.if_icmp .ge 25, 3) := by decide +kernel
theorem dc_M_look_80 : decode bb_M_look 80 = .ok (.aload_n 0, 1) := by decide +kernel
theorem dc_M_look_81 : decode bb_M_look 81 = .ok (.getfield 45, 3) := by decide +kernel
theorem dc_M_look_84 : decode bb_M_look 84 = .ok (.ifCond .ne 18, 3) := by decide +kernel
theorem dc_M_look_87 : decode bb_M_look 87 = .ok (.aload_n 0, 1) := by decide +kernel
theorem dc_M_look_88 : decode bb_M_look 88 = .ok (.getfield 27, 3) := by decide +kernel
theorem dc_M_look_91 : decode bb_M_look 91 = .ok (.iload_n 1, 1) := by decide +kernel
theorem dc_M_look_92 : decode bb_M_look 92 = .ok (.aaload, 1) := by decide +kernel
theorem dc_M_look_93 : decode bb_M_look 93 = .ok (.invokevirtual 116, 3) := by decide +kernel
theorem dc_M_look_96 : decode bb_M_look 96 = .ok (.iinc 1 1, 3) := by decide +kernel
theorem dc_M_look_99 : decode bb_M_look 99 = .ok (.goto (-27), 3) := by decide +kernel
theorem dc_M_look_102 : decode bb_M_look 102 = .ok (.return_, 1) := by decide +kernel
theorem dc_L_read_0 : decode bb_L_read 0 = .ok (.aload_n 0, 1) := by decide +kernel
theorem dc_L_read_1 : decode bb_L_read 1 = .ok (.iconst 0, 1) := by decide +kernel
theorem dc_L_read_2 : decode bb_L_read 2 = .ok (.putfield 20, 3) := by decide +kernel
theorem dc_L_read_5 : decode bb_L_read 5 = .ok (.iconst 0, 1) := by decide +kernel
theorem dc_L_read_6 : decode bb_L_read 6 = .ok (.istore_n 1, 1) := by decide +kernel
theorem dc_L_read_7 : decode bb_L_read 7 = .ok (.iconst (-1), 1) := by decide +kernel
theorem dc_L_read_8 : decode bb_L_read 8 = .ok (.istore_n 2, 1) := by decide +kernel
theorem dc_L_read_9 : decode bb_L_read 9 = .ok (.iconst 0, 1) := by decide +kernel
theorem dc_L_read_10 : decode bb_L_read 10 = .ok (.istore_n 3, 1) := by decide +kernel
theorem dc_L_read_11 : decode bb_L_read 11 = .ok (.iload_n 3, 1) := by decide +kernel
theorem dc_L_read_12 : decode bb_L_read 12 = .ok (.bipush 20, 2) := by decide +kernel
theorem dc_L_read_14 : decode bb_L_read 14 = .ok (.if_icmp .gt 121, 3) := by decide +kernel
theorem dc_L_read_17 : decode bb_L_read 17 = .ok (.aload_n 0, 1) := by decide +kernel
theorem dc_L_read_18 : decode bb_L_read 18 = .ok (.iload_n 2, 1) := by decide +kernel
theorem dc_L_read_19 : decode bb_L_read 19 = .ok (.iload_n 1, 1) := by decide +kernel
theorem dc_L_read_20 : decode bb_L_read 20 = .ok (.invokevirtual 28, 3) := by decide +kernel
theorem dc_L_read_23 : decode bb_L_read 23 = .ok (.istore_n 2, 1) := by decide +kernel
theorem dc_L_read_24 : decode bb_L_read 24 = .ok (.iload_n 2, 1) := by decide +kernel
theorem dc_L_read_25 : decode bb_L_read 25 = .ok (.iconst (-1), 1) := by decide +kernel
theorem dc_L_read_26 : decode bb_L_read 26 = .ok (.if_icmp .ne 13, 3) := by decide +kernel
theorem dc_L_read_29 : decode bb_L_read 29 = .ok (.aload_n 0, 1) := by decide +kernel
theorem dc_L_read_30 : decode bb_L_read 30 = .ok (.getfield 9, 3) := by decide +kernel
theorem dc_L_read_33 : decode bb_L_read 33 = .ok (.invokevirtual 31, 3) := by decide +kernel
theorem dc_L_read_36 : decode bb_L_read 36 = .ok (.goto 8, 3) := by decide +kernel
theorem dc_L_read_39 : decode bb_L_read 39 = .ok (.aload_n 0, 1) := by decide +kernel
theorem dc_L_read_40 : decode bb_L_read 40 = .ok (.iload_n 2, 1) := by decide +kernel
theorem dc_L_read_41 : decode bb_L_read 41 = .ok (.invokevirtual 37, 3) := by decide +kernel
theorem dc_L_read_44 : decode bb_L_read 44 = .ok (.istore 4, 2) := by decide +kernel
theorem dc_L_read_46 : decode bb_L_read 46 = .ok (.iload_n 1, 1) := by decide +kernel
theorem dc_L_read_47 : decode bb_L_read 47 = .ok (.iload 4, 2) := by decide +kernel
theorem dc_L_read_49 : decode bb_L_read 49 = .ok (.if_icmp .lt 5, 3) := by decide +kernel
theorem dc_L_read_52 : decode bb_L_read 52 = .ok (.iconst 0, 1) := by decide +kernel
theorem dc_L_read_53 : decode bb_L_read 53 = .ok (.ireturn, 1) := by decide +kernel
theorem dc_L_read_54 : decode bb_L_read 54 = .ok (.aload_n 0, 1) := by decide +kernel
theorem dc_L_read_55 : decode bb_L_read 55 = .ok (.getfield 20, 3) := by decide +kernel
theorem dc_L_read_58 : decode bb_L_read 58 = .ok (.bipush 20, 2) := by decide +kernel
theorem dc_L_read_60 : decode bb_L_read 60 = .ok (.if_icmp .lt 5, 3) := by decide +kernel
theorem dc_L_read_63 : decode bb_L_read 63 = .ok (.iconst 2, 1) := by decide +kernel
theorem dc_L_read_64 : decode bb_L_read 64 = .ok (.ireturn, 1) := by decide +kernel
theorem dc_L_read_65 : decode bb_L_read 65 = .ok (.aload_n 0, 1) := by decide +kernel
theorem dc_L_read_66 : decode bb_L_read 66 = .ok (.iload_n 1, 1) := by decide +kernel
theorem dc_L_read_67 : decode bb_L_read 67 = .ok (.iload 4, 2) := by decide +kernel
theorem dc_L_read_69 : decode bb_L_read 69 = .ok (.iload_n 1, 1) := by decide +kernel
theorem dc_L_read_70 : decode bb_L_read 70 = .ok (.isub, 1) := by decide +kernel
theorem dc_L_read_71 : decode bb_L_read 71 = .ok (.iload_n 2, 1) := by decide +kernel
theorem dc_L_read_72 : decode bb_L_read 72 = .ok (.invokevirtual 41, 3) := by decide +kernel
theorem dc_L_read_75 : decode bb_L_read 75 = .ok (.ifCond .ne 5, 3) := by decide +kernel
theorem dc_L_read_78 : decode bb_L_read 78 = .ok (.iconst 1, 1) := by decide +kernel
theorem dc_L_read_79 : decode bb_L_read 79 = .ok (.ireturn, 1) := by decide +kernel
theorem dc_L_read_80 : decode bb_L_read 80 = .ok (.aload_n 0, 1) := by decide +kernel
theorem dc_L_read_81 : decode bb_L_read 81 = .ok (.getfield 20, 3) := by decide +kernel
theorem dc_L_read_84 : decode bb_L_read 84 = .ok (.iconst 1, 1) := by decide +kernel
theorem dc_L_read_85 : decode bb_L_read 85 = .ok (.isub, 1) := by decide +kernel
theorem dc_L_read_86 : decode bb_L_read 86 = .ok (.istore 5, 2) := by decide +kernel
theorem dc_L_read_88 : decode bb_L_read 88 = .ok (.aload_n 0, 1) := by decide +kernel
theorem dc_L_read_89 : decode bb_L_read 89 = .ok (.iload 5, 2) := by decide +kernel
theorem dc_L_read_91 : decode bb_L_read 91 = .ok (.invokevirtual 45, 3) := by decide +kernel
theorem dc_L_read_94 : decode bb_L_read 94 = .ok (.istore 6, 2) := by decide +kernel
theorem dc_L_read_96 : decode bb_L_read 96 = .ok (.iload 6, 2) := by decide +kernel
theorem dc_L_read_98 : decode bb_L_read 98 = .ok (.ifCond .eq 8, 3) := by decide +kernel
theorem dc_L_read_101 : decode bb_L_read 101 = .ok (.iload 5, 2) := by decide +kernel
theorem dc_L_read_103 : decode bb_L_read 103 = .ok (.goto 4, 3) := by decide +kernel
theorem dc_L_read_106 : decode bb_L_read 106 = .ok (.iload_n 2, 1) := by decide +kernel
theorem dc_L_read_107 : decode bb_L_read 107 = .ok (.istore_n 2, 1) := by decide +kernel
theorem dc_L_read_108 : decode bb_L_read 108 = .ok (.iload 6, 2) := by decide +kernel
theorem dc_L_read_110 : decode bb_L_read 110 = .ok (.ifCond .eq 12, 3) := by decide +kernel
theorem dc_L_read_113 : decode bb_L_read 113 = .ok (.aload_n 0, 1) := by decide +kernel
theorem dc_L_read_114 : decode bb_L_read 114 = .ok (.iload 5, 2) := by decide +kernel
theorem dc_L_read_116 : decode bb_L_read 116 = .ok (.invokevirtual 49, 3) := by decide +kernel
theorem dc_L_read_119 : decode bb_L_read 119 = .ok (.goto 9, 3) := by decide +kernel
theorem dc_L_read_122 : decode bb_L_read 122 = .ok (.aload_n 0, 1) := by decide +kernel
theorem dc_L_read_123 : decode bb_L_read 123 = .ok (.iload 5, 2) := by decide +kernel
theorem dc_L_read_125 : decode bb_L_read 125 = .ok (.invokevirtual 37, 3) := by decide +kernel
theorem dc_L_read_128 : decode bb_L_read 128 = .ok (.istore_n 1, 1) := by decide +kernel
theorem dc_L_read_129 : decode bb_L_read 129 = .ok (.iinc 3 1, 3) := by decide +kernel
theorem dc_L_read_132 : decode bb_L_read 132 = .ok (.goto (-121), 3) := by decide +kernel
theorem dc_L_read_135 : decode bb_L_read 135 = .ok (.iconst 2, 1) := by decide +kernel
theorem dc_L_read_136 : decode bb_L_read 136 = .ok (.ireturn, 1) := by decide +kernel
theorem dc_L_openHolder_0 : decode bb_L_openHolder 0 = .ok (.iload_n 1, 1) := by decide +kernel
theorem dc_L_openHolder_1 : decode bb_L_openHolder 1 = .ok (.istore_n 3, 1) := by decide +kernel
theorem dc_L_openHolder_2 : decode bb_L_openHolder 2 = .ok (.iconst 0, 1) := by decide +kernel
theorem dc_L_openHolder_3 : decode bb_L_openHolder 3 = .ok (.istore 4, 2) := by decide +kernel
theorem dc_L_openHolder_5 : decode bb_L_openHolder 5 = .ok (.iload 4, 2) := by decide +kernel
theorem dc_L_openHolder_7 : decode bb_L_openHolder 7 = .ok (.iconst 2, 1) := by decide +kernel
theorem dc_L_openHolder_8 : decode bb_L_openHolder 8 = .ok (.if_icmp .ge 30, 3) := by decide +kernel
theorem dc_L_openHolder_11 : decode bb_L_openHolder 11 = .ok (.iload_n 3, 1) := by decide +kernel
theorem dc_L_openHolder_12 : decode bb_L_openHolder 12 = .ok (.iconst (-1), 1) := by decide +kernel
theorem dc_L_openHolder_13 : decode bb_L_openHolder 13 = .ok (.if_icmp .eq 25, 3) := by decide +kernel
theorem dc_L_openHolder_16 : decode bb_L_openHolder 16 = .ok (.iload_n 2, 1) := by decide +kernel
theorem dc_L_openHolder_17 : decode bb_L_openHolder 17 = .ok (.aload_n 0, 1) := by decide +kernel
theorem dc_L_openHolder_18 : decode bb_L_openHolder 18 = .ok (.iload_n 3, 1) := by decide +kernel
theorem dc_L_openHolder_19 : decode bb_L_openHolder 19 = .ok (.invokevirtual 37, 3) := by decide +kernel
theorem dc_L_openHolder_22 : decode bb_L_openHolder 22 = .ok (.if_icmp .lt 16, 3) := by decide +kernel
theorem dc_L_openHolder_25 : decode bb_L_openHolder 25 = .ok (.aload_n 0, 1) := by decide +kernel
theorem dc_L_openHolder_26 : decode bb_L_openHolder 26 = .ok (.iload_n 3, 1) := by decide +kernel
theorem dc_L_openHolder_27 : decode bb_L_openHolder 27 = .ok (.iconst 5, 1) := by decide +kernel
theorem dc_L_openHolder_28 : decode bb_L_openHolder 28 = .ok (.invokevirtual 24, 3) := by decide +kernel
theorem dc_L_openHolder_31 : decode bb_L_openHolder 31 = .ok (.istore_n 3, 1) := by decide +kernel
theorem dc_L_openHolder_32 : decode bb_L_openHolder 32 = .ok (.iinc 4 1, 3) := by decide +kernel
theorem dc_L_openHolder_35 : decode bb_L_openHolder 35 = .ok (.goto (-30), 3) := by decide +kernel
theorem dc_L_openHolder_38 : decode bb_L_openHolder 38 = .ok (.iload_n 3, 1) := by decide +kernel
theorem dc_L_openHolder_39 : decode bb_L_openHolder 39 = .ok (.ireturn, 1) := by decide +kernel
theorem dc_L_endOf_0 : decode bb_L_endOf 0 = .ok (.iload_n 1, 1) := by decide +kernel
theorem dc_L_endOf_1 : decode bb_L_endOf 1 = .ok (.ifCond .lt 31, 3) := by decide +kernel
theorem dc_L_endOf_4 : decode bb_L_endOf 4 = .ok (.iload_n 1, 1) := by decide +kernel
theorem dc_L_endOf_5 : decode bb_L_endOf 5 = .ok (.aload_n 0, 1) := by decide +kernel
theorem dc_L_endOf_6 : decode bb_L_endOf 6 = .ok (.getfield 20, 3) := by decide +kernel
theorem dc_L_endOf_9 : decode bb_L_endOf 9 = .ok (.if_icmp .ge 23, 3) := by decide +kernel
theorem dc_L_endOf_12 : decode bb_L_endOf 12 = .ok (.aload_n 0, 1) := by decide +kernel
theorem dc_L_endOf_13 : decode bb_L_endOf 13 = .ok (.getfield 17, 3) := by decide +kernel
theorem dc_L_endOf_16 : decode bb_L_endOf 16 = .ok (.iconst 0, 1) := by decide +kernel
theorem dc_L_endOf_17 : decode bb_L_endOf 17 = .ok (.aaload, 1) := by decide +kernel
theorem dc_L_endOf_18 : decode bb_L_endOf 18 = .ok (.iload_n 1, 1) := by decide +kernel
theorem dc_L_endOf_19 : decode bb_L_endOf 19 = .ok (.iaload, 1) := by decide +kernel
theorem dc_L_endOf_20 : decode bb_L_endOf 20 = .ok (.aload_n 0, 1) := by decide +kernel
theorem dc_L_endOf_21 : decode bb_L_endOf 21 = .ok (.getfield 17, 3) := by decide +kernel
theorem dc_L_endOf_24 : decode bb_L_endOf 24 = .ok (.iconst 1, 1) := by decide +kernel
theorem dc_L_endOf_25 : decode bb_L_endOf 25 = .ok (.aaload, 1) := by decide +kernel
theorem dc_L_endOf_26 : decode bb_L_endOf 26 = .ok (.iload_n 1, 1) := by decide +kernel
theorem dc_L_endOf_27 : decode bb_L_endOf 27 = .ok (.iaload, 1) := by decide +kernel
theorem dc_L_endOf_28 : decode bb_L_endOf 28 = .ok (.iadd, 1) := by decide +kernel
theorem dc_L_endOf_29 : decode bb_L_endOf 29 = .ok (.goto 6, 3) := by decide +kernel
theorem dc_L_endOf_32 : decode bb_L_endOf 32 = .ok (.sipush (-1000), 3) := by decide +kernel
theorem dc_L_endOf_35 : decode bb_L_endOf 35 = .ok (.ireturn, 1) := by decide +kernel
theorem dc_L_of_0 : decode bb_L_of 0 = .ok (.iload_n 1, 1) := by decide +kernel
theorem dc_L_of_1 : decode bb_L_of 1 = .ok (.ifCond .lt 21, 3) := by decide +kernel
theorem dc_L_of_4 : decode bb_L_of 4 = .ok (.iload_n 1, 1) := by decide +kernel
theorem dc_L_of_5 : decode bb_L_of 5 = .ok (.aload_n 0, 1) := by decide +kernel
theorem dc_L_of_6 : decode bb_L_of 6 = .ok (.getfield 20, 3) := by decide +kernel
theorem dc_L_of_9 : decode bb_L_of 9 = .ok (.if_icmp .ge 13, 3) := by decide +kernel
theorem dc_L_of_12 : decode bb_L_of 12 = .ok (.iload_n 2, 1) := by decide +kernel
theorem dc_L_of_13 : decode bb_L_of 13 = .ok (.ifCond .lt 9, 3) := by decide +kernel
theorem dc_L_of_16 : decode bb_L_of 16 = .ok (.iload_n 2, 1) := by decide +kernel
theorem dc_L_of_17 : decode bb_L_of 17 = .ok (.bipush 7, 2) := by decide +kernel
theorem dc_L_of_19 : decode bb_L_of 19 = .ok (.if_icmp .lt 7, 3) := by decide +kernel
theorem dc_L_of_22 : decode bb_L_of 22 = .ok (.sipush (-1000), 3) := by decide +kernel
theorem dc_L_of_25 : decode bb_L_of 25 = .ok (.ireturn, 1) := by decide +kernel
theorem dc_L_of_26 : decode bb_L_of 26 = .ok (.aload_n 0, 1) := by decide +kernel
theorem dc_L_of_27 : decode bb_L_of 27 = .ok (.getfield 17, 3) := by decide +kernel
theorem dc_L_of_30 : decode bb_L_of 30 = .ok (.iload_n 2, 1) := by decide +kernel
theorem dc_L_of_31 : decode bb_L_of 31 = .ok (.aaload, 1) := by decide +kernel
theorem dc_L_of_32 : decode bb_L_of 32 = .ok (.iload_n 1, 1) := by decide +kernel
theorem dc_L_of_33 : decode bb_L_of 33 = .ok (.iaload, 1) := by decide +kernel
theorem dc_L_of_34 : decode bb_L_of 34 = .ok (.ireturn, 1) := by decide +kernel
theorem dc_L_readBox_0 : decode bb_L_readBox 0 = .ok (.iload_n 2, 1) := by decide +kernel
theorem dc_L_readBox_1 : decode bb_L_readBox 1 = .ok (.iconst 2, 1) := by decide +kernel
theorem dc_L_readBox_2 : decode bb_L_readBox 2 = .ok (.if_icmp .ge 5, 3) := by decide +kernel
theorem dc_L_readBox_5 : decode bb_L_readBox 5 = .ok (.iconst 0, 1) := by decide +kernel
theorem dc_L_readBox_6 : decode bb_L_readBox 6 = .ok (.ireturn, 1) := by decide +kernel
theorem dc_L_readBox_7 : decode bb_L_readBox 7 = .ok (.aload_n 0, 1) := by decide +kernel
theorem dc_L_readBox_8 : decode bb_L_readBox 8 = .ok (.getfield 9, 3) := by decide +kernel
theorem dc_L_readBox_11 : decode bb_L_readBox 11 = .ok (.iload_n 1, 1) := by decide +kernel
theorem dc_L_readBox_12 : decode bb_L_readBox 12 = .ok (.invokevirtual 52, 3) := by decide +kernel
theorem dc_L_readBox_15 : decode bb_L_readBox 15 = .ok (.istore 4, 2) := by decide +kernel
theorem dc_L_readBox_17 : decode bb_L_readBox 17 = .ok (.iload 4, 2) := by decide +kernel
theorem dc_L_readBox_19 : decode bb_L_readBox 19 = .ok (.iconst 1, 1) := by decide +kernel
theorem dc_L_readBox_20 : decode bb_L_readBox 20 = .ok (.if_icmp .ne 7, 3) := by decide +kernel
theorem dc_L_readBox_23 : decode bb_L_readBox 23 = .ok (.iconst 4, 1) := by decide +kernel
theorem dc_L_readBox_24 : decode bb_L_readBox 24 = .ok (.goto 4, 3) := by decide +kernel
theorem dc_L_readBox_27 : decode bb_L_readBox 27 = .ok (.iconst 2, 1) := by decide +kernel
theorem dc_L_readBox_28 : decode bb_L_readBox 28 = .ok (.istore 5, 2) := by decide +kernel
theorem dc_L_readBox_30 : decode bb_L_readBox 30 = .ok (.iload_n 2, 1) := by decide +kernel
theorem dc_L_readBox_31 : decode bb_L_readBox 31 = .ok (.iload 5, 2) := by decide +kernel
theorem dc_L_readBox_33 : decode bb_L_readBox 33 = .ok (.if_icmp .lt 13, 3) := by decide +kernel
theorem dc_L_readBox_36 : decode bb_L_readBox 36 = .ok (.iload 4, 2) := by decide +kernel
theorem dc_L_readBox_38 : decode bb_L_readBox 38 = .ok (.ifCond .ne 10, 3) := by decide +kernel
theorem dc_L_readBox_41 : decode bb_L_readBox 41 = .ok (.iload_n 3, 1) := by decide +kernel
theorem dc_L_readBox_42 : decode bb_L_readBox 42 = .ok (.iconst (-1), 1) := by decide +kernel
theorem dc_L_readBox_43 : decode bb_L_readBox 43 = .ok (.if_icmp .eq 5, 3) := by decide +kernel
theorem dc_L_readBox_46 : decode bb_L_readBox 46 = .ok (.iconst 0, 1) := by decide +kernel
theorem dc_L_readBox_47 : decode bb_L_readBox 47 = .ok (.ireturn, 1) := by decide +kernel
theorem dc_L_readBox_48 : decode bb_L_readBox 48 = .ok (.iload 4, 2) := by decide +kernel
theorem dc_L_readBox_50 : decode bb_L_readBox 50 = .ok (.istore 6, 2) := by decide +kernel
theorem dc_L_readBox_52 : decode bb_L_readBox 52 = .ok (.iload 4, 2) := by decide +kernel
theorem dc_L_readBox_54 : decode bb_L_readBox 54 = .ok (.iconst 1, 1) := by decide +kernel
theorem dc_L_readBox_55 : decode bb_L_readBox 55 = .ok (.if_icmp .ne 18, 3) := by decide +kernel
theorem dc_L_readBox_58 : decode bb_L_readBox 58 = .ok (.aload_n 0, 1) := by decide +kernel
theorem dc_L_readBox_59 : decode bb_L_readBox 59 = .ok (.getfield 9, 3) := by decide +kernel
theorem dc_L_readBox_62 : decode bb_L_readBox 62 = .ok (.iload_n 1, 1) := by decide +kernel
theorem dc_L_readBox_63 : decode bb_L_readBox 63 = .ok (.iconst 2, 1) := by decide +kernel
theorem dc_L_readBox_64 : decode bb_L_readBox 64 = .ok (.iadd, 1) := by decide +kernel
theorem dc_L_readBox_65 : decode bb_L_readBox 65 = .ok (.invokevirtual 55, 3) := by decide +kernel
theorem dc_L_readBox_68 : decode bb_L_readBox 68 = .ok (.istore 6, 2) := by decide +kernel
theorem dc_L_readBox_70 : decode bb_L_readBox 70 = .ok (.goto 11, 3) := by decide +kernel
theorem dc_L_readBox_73 : decode bb_L_readBox 73 = .ok (.iload 4, 2) := by decide +kernel
theorem dc_L_readBox_75 : decode bb_L_readBox 75 = .ok (.ifCond .ne 6, 3) := by decide +kernel
theorem dc_L_readBox_78 : decode bb_L_readBox 78 = .ok (.iload_n 2, 1) := by decide +kernel
theorem dc_L_readBox_79 : decode bb_L_readBox 79 = .ok (.istore 6, 2) := by decide +kernel
theorem dc_L_readBox_81 : decode bb_L_readBox 81 = .ok (.iload 6, 2) := by decide +kernel
theorem dc_L_readBox_83 : decode bb_L_readBox 83 = .ok (.iload 5, 2) := by decide +kernel
theorem dc_L_readBox_85 : decode bb_L_readBox 85 = .ok (.if_icmp .lt 9, 3) := by decide +kernel
theorem dc_L_readBox_88 : decode bb_L_readBox 88 = .ok (.iload 6, 2) := by decide +kernel
theorem dc_L_readBox_90 : decode bb_L_readBox 90 = .ok (.iload_n 2, 1) := by decide +kernel
theorem dc_L_readBox_91 : decode bb_L_readBox 91 = .ok (.if_icmp .le 5, 3) := by decide +kernel
theorem dc_L_readBox_94 : decode bb_L_readBox 94 = .ok (.iconst 0, 1) := by decide +kernel
theorem dc_L_readBox_95 : decode bb_L_readBox 95 = .ok (.ireturn, 1) := by decide +kernel
theorem dc_L_readBox_96 : decode bb_L_readBox 96 = .ok (.aload_n 0, 1) := by decide +kernel
theorem dc_L_readBox_97 : decode bb_L_readBox 97 = .ok (.iload_n 1, 1) := by decide +kernel
theorem dc_L_readBox_98 : decode bb_L_readBox 98 = .ok (.iload 6, 2) := by decide +kernel
theorem dc_L_readBox_100 : decode bb_L_readBox 100 = .ok (.iload 5, 2) := by decide +kernel
theorem dc_L_readBox_102 : decode bb_L_readBox 102 = .ok (.iload_n 3, 1) := by decide +kernel
theorem dc_L_readBox_103 : decode bb_L_readBox 103 = .ok (.invokevirtual 58, 3) := by decide +kernel
theorem dc_L_readBox_106 : decode bb_L_readBox 106 = .ok (.iconst 1, 1) := by decide +kernel
theorem dc_L_readBox_107 : decode bb_L_readBox 107 = .ok (.ireturn, 1) := by decide +kernel
theorem dc_B_pairAt_0 : decode bb_B_pairAt 0 = .ok (.iload_n 1, 1) := by decide +kernel
theorem dc_B_pairAt_1 : decode bb_B_pairAt 1 = .ok (.ifCond .lt 35, 3) := by decide +kernel
theorem dc_B_pairAt_4 : decode bb_B_pairAt 4 = .ok (.iload_n 1, 1) := by decide +kernel
theorem dc_B_pairAt_5 : decode bb_B_pairAt 5 = .ok (.aload_n 0, 1) := by decide +kernel
theorem dc_B_pairAt_6 : decode bb_B_pairAt 6 = .ok (.getfield 15, 3) := by decide +kernel
theorem dc_B_pairAt_9 : decode bb_B_pairAt 9 = .ok (.iconst 1, 1) := by decide +kernel
theorem dc_B_pairAt_10 : decode bb_B_pairAt 10 = .ok (.isub, 1) := by decide +kernel
theorem dc_B_pairAt_11 : decode bb_B_pairAt 11 = .ok (.if_icmp .ge 25, 3) := by decide +kernel
theorem dc_B_pairAt_14 : decode bb_B_pairAt 14 = .ok (.aload_n 0, 1) := by decide +kernel
theorem dc_B_pairAt_15 : decode bb_B_pairAt 15 = .ok (.getfield 9, 3) := by decide +kernel
theorem dc_B_pairAt_18 : decode bb_B_pairAt 18 = .ok (.iload_n 1, 1) := by decide +kernel
theorem dc_B_pairAt_19 : decode bb_B_pairAt 19 = .ok (.iaload, 1) := by decide +kernel
theorem dc_B_pairAt_20 : decode bb_B_pairAt 20 = .ok (.sipush 256, 3) := by decide +kernel
theorem dc_B_pairAt_23 : decode bb_B_pairAt 23 = .ok (.imul, 1) := by decide +kernel
theorem dc_B_pairAt_24 : decode bb_B_pairAt 24 = .ok (.aload_n 0, 1) := by decide +kernel
theorem dc_B_pairAt_25 : decode bb_B_pairAt 25 = .ok (.getfield 9, 3) := by decide +kernel
theorem dc_B_pairAt_28 : decode bb_B_pairAt 28 = .ok (.iload_n 1, 1) := by decide +kernel
theorem dc_B_pairAt_29 : decode bb_B_pairAt 29 = .ok (.iconst 1, 1) := by decide +kernel
theorem dc_B_pairAt_30 : decode bb_B_pairAt 30 = .ok (.iadd, 1) := by decide +kernel
theorem dc_B_pairAt_31 : decode bb_B_pairAt 31 = .ok (.iaload, 1) := by decide +kernel
theorem dc_B_pairAt_32 : decode bb_B_pairAt 32 = .ok (.iadd, 1) := by decide +kernel
theorem dc_B_pairAt_33 : decode bb_B_pairAt 33 = .ok (.goto 6, 3) := by decide +kernel
theorem dc_B_pairAt_36 : decode bb_B_pairAt 36 = .ok (.sipush (-1000), 3) := by decide +kernel
theorem dc_B_pairAt_39 : decode bb_B_pairAt 39 = .ok (.ireturn, 1) := by decide +kernel
theorem dc_L_note_0 : decode bb_L_note 0 = .ok (.aload_n 0, 1) := by decide +kernel
theorem dc_L_note_1 : decode bb_L_note 1 = .ok (.getfield 20, 3) := by decide +kernel
theorem dc_L_note_4 : decode bb_L_note 4 = .ok (.bipush 20, 2) := by decide +kernel
theorem dc_L_note_6 : decode bb_L_note 6 = .ok (.if_icmp .lt 4, 3) := by decide +kernel
theorem dc_L_note_9 : decode bb_L_note 9 = .ok (.return_, 1) := by decide +kernel
theorem dc_L_note_10 : decode bb_L_note 10 = .ok (.aload_n 0, 1) := by decide +kernel
theorem dc_L_note_11 : decode bb_L_note 11 = .ok (.getfield 9, 3) := by decide +kernel
theorem dc_L_note_14 : decode bb_L_note 14 = .ok (.iload_n 1, 1) := by decide +kernel
theorem dc_L_note_15 : decode bb_L_note 15 = .ok (.iconst 1, 1) := by decide +kernel
theorem dc_L_note_16 : decode bb_L_note 16 = .ok (.iadd, 1) := by decide +kernel
theorem dc_L_note_17 : decode bb_L_note 17 = .ok (.invokevirtual 52, 3) := by decide +kernel
theorem dc_L_note_20 : decode bb_L_note 20 = .ok (.istore 5, 2) := by decide +kernel
theorem dc_L_note_22 : decode bb_L_note 22 = .ok (.iload 4, 2) := by decide +kernel
theorem dc_L_note_24 : decode bb_L_note 24 = .ok (.iconst (-1), 1) := by decide +kernel
theorem dc_L_note_25 : decode bb_L_note 25 = .ok (.if_icmp .ne 7, 3) := by decide +kernel
theorem dc_L_note_28 : decode bb_L_note 28 = .ok (.iconst 0, 1) := by decide +kernel
theorem dc_L_note_29 : decode bb_L_note 29 = .ok (.goto 12, 3) := by decide +kernel
theorem dc_L_note_32 : decode bb_L_note 32 = .ok (.aload_n 0, 1) := by decide +kernel
theorem dc_L_note_33 : decode bb_L_note 33 = .ok (.iload 4, 2) := by decide +kernel
theorem dc_L_note_35 : decode bb_L_note 35 = .ok (.iconst 4, 1) := by decide +kernel
theorem dc_L_note_36 : decode bb_L_note 36 = .ok (.invokevirtual 24, 3) := by decide +kernel
theorem dc_L_note_39 : decode bb_L_note 39 = .ok (.iconst 1, 1) := by decide +kernel
theorem dc_L_note_40 : decode bb_L_note 40 = .ok (.iadd, 1) := by decide +kernel
theorem dc_L_note_41 : decode bb_L_note 41 = .ok (.istore 6, 2) := by decide +kernel
theorem dc_L_note_43 : decode bb_L_note 43 = .ok (.aload_n 0, 1) := by decide +kernel
theorem dc_L_note_44 : decode bb_L_note 44 = .ok (.getfield 17, 3) := by decide +kernel
theorem dc_L_note_47 : decode bb_L_note 47 = .ok (.iconst 0, 1) := by decide +kernel
theorem dc_L_note_48 : decode bb_L_note 48 = .ok (.aaload, 1) := by decide +kernel
theorem dc_L_note_49 : decode bb_L_note 49 = .ok (.aload_n 0, 1) := by decide +kernel
theorem dc_L_note_50 : decode bb_L_note 50 = .ok (.getfield 20, 3) := by decide +kernel
theorem dc_L_note_53 : decode bb_L_note 53 = .ok (.iload_n 1, 1) := by decide +kernel
theorem dc_L_note_54 : decode bb_L_note 54 = .ok (.iastore, 1) := by decide +kernel
theorem dc_L_note_55 : decode bb_L_note 55 = .ok (.aload_n 0, 1) := by decide +kernel
theorem dc_L_note_56 : decode bb_L_note 56 = .ok (.getfield 17, 3) := by decide +kernel
theorem dc_L_note_59 : decode bb_L_note 59 = .ok (.iconst 1, 1) := by decide +kernel
theorem dc_L_note_60 : decode bb_L_note 60 = .ok (.aaload, 1) := by decide +kernel
theorem dc_L_note_61 : decode bb_L_note 61 = .ok (.aload_n 0, 1) := by decide +kernel
theorem dc_L_note_62 : decode bb_L_note 62 = .ok (.getfield 20, 3) := by decide +kernel
theorem dc_L_note_65 : decode bb_L_note 65 = .ok (.iload_n 2, 1) := by decide +kernel
theorem dc_L_note_66 : decode bb_L_note 66 = .ok (.iastore, 1) := by decide +kernel
theorem dc_L_note_67 : decode bb_L_note 67 = .ok (.aload_n 0, 1) := by decide +kernel
theorem dc_L_note_68 : decode bb_L_note 68 = .ok (.getfield 17, 3) := by decide +kernel
theorem dc_L_note_71 : decode bb_L_note 71 = .ok (.iconst 2, 1) := by decide +kernel
theorem dc_L_note_72 : decode bb_L_note 72 = .ok (.aaload, 1) := by decide +kernel
theorem dc_L_note_73 : decode bb_L_note 73 = .ok (.aload_n 0, 1) := by decide +kernel
theorem dc_L_note_74 : decode bb_L_note 74 = .ok (.getfield 20, 3) := by decide +kernel
theorem dc_L_note_77 : decode bb_L_note 77 = .ok (.iload 5, 2) := by decide +kernel
theorem dc_L_note_79 : decode bb_L_note 79 = .ok (.iastore, 1) := by decide +kernel
theorem dc_L_note_80 : decode bb_L_note 80 = .ok (.aload_n 0, 1) := by decide +kernel
theorem dc_L_note_81 : decode bb_L_note 81 = .ok (.getfield 17, 3) := by decide +kernel
theorem dc_L_note_84 : decode bb_L_note 84 = .ok (.iconst 3, 1) := by decide +kernel
theorem dc_L_note_85 : decode bb_L_note 85 = .ok (.aaload, 1) := by decide +kernel
theorem dc_L_note_86 : decode bb_L_note 86 = .ok (.aload_n 0, 1) := by decide +kernel
theorem dc_L_note_87 : decode bb_L_note 87 = .ok (.getfield 20, 3) := by decide +kernel
theorem dc_L_note_90 : decode bb_L_note 90 = .ok (.iload_n 3, 1) := by decide +kernel
theorem dc_L_note_91 : decode bb_L_note 91 = .ok (.iastore, 1) := by decide +kernel
theorem dc_L_note_92 : decode bb_L_note 92 = .ok (.aload_n 0, 1) := by decide +kernel
theorem dc_L_note_93 : decode bb_L_note 93 = .ok (.getfield 17, 3) := by decide +kernel
theorem dc_L_note_96 : decode bb_L_note 96 = .ok (.iconst 4, 1) := by decide +kernel
theorem dc_L_note_97 : decode bb_L_note 97 = .ok (.aaload, 1) := by decide +kernel
theorem dc_L_note_98 : decode bb_L_note 98 = .ok (.aload_n 0, 1) := by decide +kernel
theorem dc_L_note_99 : decode bb_L_note 99 = .ok (.getfield 20, 3) := by decide +kernel
theorem dc_L_note_102 : decode bb_L_note 102 = .ok (.iload 6, 2) := by decide +kernel
theorem dc_L_note_104 : decode bb_L_note 104 = .ok (.iastore, 1) := by decide +kernel
theorem dc_L_note_105 : decode bb_L_note 105 = .ok (.aload_n 0, 1) := by decide +kernel
theorem dc_L_note_106 : decode bb_L_note 106 = .ok (.getfield 17, 3) := by decide +kernel
theorem dc_L_note_109 : decode bb_L_note 109 = .ok (.iconst 5, 1) := by decide +kernel
theorem dc_L_note_110 : decode bb_L_note 110 = .ok (.aaload, 1) := by decide +kernel
theorem dc_L_note_111 : decode bb_L_note 111 = .ok (.aload_n 0, 1) := by decide +kernel
theorem dc_L_note_112 : decode bb_L_note 112 = .ok (.getfield 20, 3) := by decide +kernel
theorem dc_L_note_115 : decode bb_L_note 115 = .ok (.iload 4, 2) := by decide +kernel
theorem dc_L_note_117 : decode bb_L_note 117 = .ok (.iastore, 1) := by decide +kernel
theorem dc_L_note_118 : decode bb_L_note 118 = .ok (.aload_n 0, 1) := by decide +kernel
theorem dc_L_note_119 : decode bb_L_note 119 = .ok (.getfield 17, 3) := by decide +kernel
theorem dc_L_note_122 : decode bb_L_note 122 = .ok (.bipush 6, 2) := by decide +kernel
theorem dc_L_note_124 : decode bb_L_note 124 = .ok (.aaload, 1) := by decide +kernel
theorem dc_L_note_125 : decode bb_L_note 125 = .ok (.aload_n 0, 1) := by decide +kernel
theorem dc_L_note_126 : decode bb_L_note 126 = .ok (.getfield 20, 3) := by decide +kernel
theorem dc_L_note_129 : decode bb_L_note 129 = .ok (.iload 5, 2) := by decide +kernel
theorem dc_L_note_131 : decode bb_L_note 131 = .ok (.iload 6, 2) := by decide +kernel
theorem dc_L_note_133 : decode bb_L_note 133 = .ok (.invokestatic 62, 3) := by decide +kernel
theorem dc_L_note_136 : decode bb_L_note 136 = .ok (.iastore, 1) := by decide +kernel
theorem dc_L_note_137 : decode bb_L_note 137 = .ok (.aload_n 0, 1) := by decide +kernel
theorem dc_L_note_138 : decode bb_L_note 138 = .ok (.dup, 1) := by decide +kernel
theorem dc_L_note_139 : decode bb_L_note 139 = .ok (.getfield 20, 3) := by decide +kernel
theorem dc_L_note_142 : decode bb_L_note 142 = .ok (.iconst 1, 1) := by decide +kernel
theorem dc_L_note_143 : decode bb_L_note 143 = .ok (.iadd, 1) := by decide +kernel
theorem dc_L_note_144 : decode bb_L_note 144 = .ok (.putfield 20, 3) := by decide +kernel
theorem dc_L_note_147 : decode bb_L_note 147 = .ok (.return_, 1) := by decide +kernel
theorem dc_L_kindOf_0 : decode bb_L_kindOf 0 = .ok (.iload_n 1, 1) := by decide +kernel
theorem dc_L_kindOf_1 : decode bb_L_kindOf 1 = .ok (.ifCond .ne 24, 3) := by decide +kernel
theorem dc_L_kindOf_4 : decode bb_L_kindOf 4 = .ok (.iload_n 0, 1) := by decide +kernel
theorem dc_L_kindOf_5 : decode bb_L_kindOf 5 = .ok (.bipush 77, 2) := by decide +kernel
theorem dc_L_kindOf_7 : decode bb_L_kindOf 7 = .ok (.if_icmp .eq 9, 3) := by decide +kernel
theorem dc_L_kindOf_10 : decode bb_L_kindOf 10 = .ok (.iload_n 0, 1) := by decide +kernel
theorem dc_L_kindOf_11 : decode bb_L_kindOf 11 = .ok (.bipush 68, 2) := by decide +kernel
theorem dc_L_kindOf_13 : decode bb_L_kindOf 13 = .ok (.if_icmp .ne 7, 3) := by decide +kernel
theorem dc_L_kindOf_16 : decode bb_L_kindOf 16 = .ok (.iconst 1, 1) := by decide +kernel
theorem dc_L_kindOf_17 : decode bb_L_kindOf 17 = .ok (.goto 4, 3) := by decide +kernel
theorem dc_L_kindOf_20 : decode bb_L_kindOf 20 = .ok (.iconst 0, 1) := by decide +kernel
theorem dc_L_kindOf_21 : decode bb_L_kindOf 21 = .ok (.istore_n 2, 1) := by decide +kernel
theorem dc_L_kindOf_22 : decode bb_L_kindOf 22 = .ok (.goto 28, 3) := by decide +kernel
theorem dc_L_kindOf_25 : decode bb_L_kindOf 25 = .ok (.iload_n 1, 1) := by decide +kernel
theorem dc_L_kindOf_26 : decode bb_L_kindOf 26 = .ok (.iconst 1, 1) := by decide +kernel
theorem dc_L_kindOf_27 : decode bb_L_kindOf 27 = .ok (.if_icmp .ne 18, 3) := by decide +kernel
theorem dc_L_kindOf_30 : decode bb_L_kindOf 30 = .ok (.iload_n 0, 1) := by decide +kernel
theorem dc_L_kindOf_31 : decode bb_L_kindOf 31 = .ok (.bipush 84, 2) := by decide +kernel
theorem dc_L_kindOf_33 : decode bb_L_kindOf 33 = .ok (.if_icmp .ne 7, 3) := by decide +kernel
theorem dc_L_kindOf_36 : decode bb_L_kindOf 36 = .ok (.iconst 1, 1) := by decide +kernel
theorem dc_L_kindOf_37 : decode bb_L_kindOf 37 = .ok (.goto 4, 3) := by decide +kernel
theorem dc_L_kindOf_40 : decode bb_L_kindOf 40 = .ok (.iconst 0, 1) := by decide +kernel
theorem dc_L_kindOf_41 : decode bb_L_kindOf 41 = .ok (.istore_n 2, 1) := by decide +kernel
theorem dc_L_kindOf_42 : decode bb_L_kindOf 42 = .ok (.goto 8, 3) := by decide +kernel
theorem dc_L_kindOf_45 : decode bb_L_kindOf 45 = .ok (.iload_n 0, 1) := by decide +kernel
theorem dc_L_kindOf_46 : decode bb_L_kindOf 46 = .ok (.invokestatic 65, 3) := by decide +kernel
theorem dc_L_kindOf_49 : decode bb_L_kindOf 49 = .ok (.istore_n 2, 1) := by decide +kernel
theorem dc_L_kindOf_50 : decode bb_L_kindOf 50 = .ok (.iload_n 2, 1) := by decide +kernel
theorem dc_L_kindOf_51 : decode bb_L_kindOf 51 = .ok (.ifCond .eq 7, 3) := by decide +kernel
theorem dc_L_kindOf_54 : decode bb_L_kindOf 54 = .ok (.iload_n 0, 1) := by decide +kernel
theorem dc_L_kindOf_55 : decode bb_L_kindOf 55 = .ok (.goto 4, 3) := by decide +kernel
theorem dc_L_kindOf_58 : decode bb_L_kindOf 58 = .ok (.iconst (-1), 1) := by decide +kernel
theorem dc_L_kindOf_59 : decode bb_L_kindOf 59 = .ok (.ireturn, 1) := by decide +kernel
theorem dc_L_isTable_0 : decode bb_L_isTable 0 = .ok (.iload_n 0, 1) := by decide +kernel
theorem dc_L_isTable_1 : decode bb_L_isTable 1 = .ok (.lookupswitch 77 #[(79, 75), (99, 75), (101, 75), (107, 75), (111, 75), (115, 75), (121, 75), (122, 75)], 75) := by decide +kernel
theorem dc_L_isTable_76 : decode bb_L_isTable 76 = .ok (.iconst 1, 1) := by decide +kernel
theorem dc_L_isTable_77 : decode bb_L_isTable 77 = .ok (.ireturn, 1) := by decide +kernel
theorem dc_L_isTable_78 : decode bb_L_isTable 78 = .ok (.iconst 0, 1) := by decide +kernel
theorem dc_L_isTable_79 : decode bb_L_isTable 79 = .ok (.ireturn, 1) := by decide +kernel
theorem dc_L_holdsBoxes_0 : decode bb_L_holdsBoxes 0 = .ok (.aload_n 0, 1) := by decide +kernel
theorem dc_L_holdsBoxes_1 : decode bb_L_holdsBoxes 1 = .ok (.iload_n 1, 1) := by decide +kernel
theorem dc_L_holdsBoxes_2 : decode bb_L_holdsBoxes 2 = .ok (.bipush 6, 2) := by decide +kernel
theorem dc_L_holdsBoxes_4 : decode bb_L_holdsBoxes 4 = .ok (.invokevirtual 24, 3) := by decide +kernel
theorem dc_L_holdsBoxes_7 : decode bb_L_holdsBoxes 7 = .ok (.istore_n 2, 1) := by decide +kernel
theorem dc_L_holdsBoxes_8 : decode bb_L_holdsBoxes 8 = .ok (.iload_n 2, 1) := by decide +kernel
theorem dc_L_holdsBoxes_9 : decode bb_L_holdsBoxes 9 = .ok (.bipush 77, 2) := by decide +kernel
theorem dc_L_holdsBoxes_11 : decode bb_L_holdsBoxes 11 = .ok (.if_icmp .eq 9, 3) := by decide +kernel
theorem dc_L_holdsBoxes_14 : decode bb_L_holdsBoxes 14 = .ok (.iload_n 2, 1) := by decide +kernel
theorem dc_L_holdsBoxes_15 : decode bb_L_holdsBoxes 15 = .ok (.bipush 84, 2) := by decide +kernel
theorem dc_L_holdsBoxes_17 : decode bb_L_holdsBoxes 17 = .ok (.if_icmp .ne 7, 3) := by decide +kernel
theorem dc_L_holdsBoxes_20 : decode bb_L_holdsBoxes 20 = .ok (.iconst 1, 1) := by decide +kernel
theorem dc_L_holdsBoxes_21 : decode bb_L_holdsBoxes 21 = .ok (.goto 4, 3) := by decide +kernel
theorem dc_L_holdsBoxes_24 : decode bb_L_holdsBoxes 24 = .ok (.iconst 0, 1) := by decide +kernel
theorem dc_L_holdsBoxes_25 : decode bb_L_holdsBoxes 25 = .ok (.ireturn, 1) := by decide +kernel
theorem dc_L_payloadOf_0 : decode bb_L_payloadOf 0 = .ok (.iload_n 1, 1) := by decide +kernel
theorem dc_L_payloadOf_1 : decode bb_L_payloadOf 1 = .ok (.ifCond .lt 31, 3) := by decide +kernel
theorem dc_L_payloadOf_4 : decode bb_L_payloadOf 4 = .ok (.iload_n 1, 1) := by decide +kernel
theorem dc_L_payloadOf_5 : decode bb_L_payloadOf 5 = .ok (.aload_n 0, 1) := by decide +kernel
theorem dc_L_payloadOf_6 : decode bb_L_payloadOf 6 = .ok (.getfield 20, 3) := by decide +kernel
theorem dc_L_payloadOf_9 : decode bb_L_payloadOf 9 = .ok (.if_icmp .ge 23, 3) := by decide +kernel
theorem dc_L_payloadOf_12 : decode bb_L_payloadOf 12 = .ok (.aload_n 0, 1) := by decide +kernel
theorem dc_L_payloadOf_13 : decode bb_L_payloadOf 13 = .ok (.getfield 17, 3) := by decide +kernel
theorem dc_L_payloadOf_16 : decode bb_L_payloadOf 16 = .ok (.iconst 0, 1) := by decide +kernel
theorem dc_L_payloadOf_17 : decode bb_L_payloadOf 17 = .ok (.aaload, 1) := by decide +kernel
theorem dc_L_payloadOf_18 : decode bb_L_payloadOf 18 = .ok (.iload_n 1, 1) := by decide +kernel
theorem dc_L_payloadOf_19 : decode bb_L_payloadOf 19 = .ok (.iaload, 1) := by decide +kernel
theorem dc_L_payloadOf_20 : decode bb_L_payloadOf 20 = .ok (.aload_n 0, 1) := by decide +kernel
theorem dc_L_payloadOf_21 : decode bb_L_payloadOf 21 = .ok (.getfield 17, 3) := by decide +kernel
theorem dc_L_payloadOf_24 : decode bb_L_payloadOf 24 = .ok (.iconst 3, 1) := by decide +kernel
theorem dc_L_payloadOf_25 : decode bb_L_payloadOf 25 = .ok (.aaload, 1) := by decide +kernel
theorem dc_L_payloadOf_26 : decode bb_L_payloadOf 26 = .ok (.iload_n 1, 1) := by decide +kernel
theorem dc_L_payloadOf_27 : decode bb_L_payloadOf 27 = .ok (.iaload, 1) := by decide +kernel
theorem dc_L_payloadOf_28 : decode bb_L_payloadOf 28 = .ok (.iadd, 1) := by decide +kernel
theorem dc_L_payloadOf_29 : decode bb_L_payloadOf 29 = .ok (.goto 6, 3) := by decide +kernel
theorem dc_L_payloadOf_32 : decode bb_L_payloadOf 32 = .ok (.sipush (-1000), 3) := by decide +kernel
theorem dc_L_payloadOf_35 : decode bb_L_payloadOf 35 = .ok (.ireturn, 1) := by decide +kernel
theorem dc_L_kindsHold_0 : decode bb_L_kindsHold 0 = .ok (.aload_n 0, 1) := by decide +kernel
theorem dc_L_kindsHold_1 : decode bb_L_kindsHold 1 = .ok (.iconst (-1), 1) := by decide +kernel
theorem dc_L_kindsHold_2 : decode bb_L_kindsHold 2 = .ok (.bipush 77, 2) := by decide +kernel
theorem dc_L_kindsHold_4 : decode bb_L_kindsHold 4 = .ok (.invokevirtual 68, 3) := by decide +kernel
theorem dc_L_kindsHold_7 : decode bb_L_kindsHold 7 = .ok (.iconst 1, 1) := by decide +kernel
theorem dc_L_kindsHold_8 : decode bb_L_kindsHold 8 = .ok (.if_icmp .eq 5, 3) := by decide +kernel
theorem dc_L_kindsHold_11 : decode bb_L_kindsHold 11 = .ok (.iconst 0, 1) := by decide +kernel
theorem dc_L_kindsHold_12 : decode bb_L_kindsHold 12 = .ok (.ireturn, 1) := by decide +kernel
theorem dc_L_kindsHold_13 : decode bb_L_kindsHold 13 = .ok (.aload_n 0, 1) := by decide +kernel
theorem dc_L_kindsHold_14 : decode bb_L_kindsHold 14 = .ok (.aload_n 0, 1) := by decide +kernel
theorem dc_L_kindsHold_15 : decode bb_L_kindsHold 15 = .ok (.iconst (-1), 1) := by decide +kernel
theorem dc_L_kindsHold_16 : decode bb_L_kindsHold 16 = .ok (.bipush 77, 2) := by decide +kernel
theorem dc_L_kindsHold_18 : decode bb_L_kindsHold 18 = .ok (.invokevirtual 71, 3) := by decide +kernel
theorem dc_L_kindsHold_21 : decode bb_L_kindsHold 21 = .ok (.bipush 84, 2) := by decide +kernel
theorem dc_L_kindsHold_23 : decode bb_L_kindsHold 23 = .ok (.invokevirtual 68, 3) := by decide +kernel
theorem dc_L_kindsHold_26 : decode bb_L_kindsHold 26 = .ok (.istore_n 1, 1) := by decide +kernel
theorem dc_L_kindsHold_27 : decode bb_L_kindsHold 27 = .ok (.iload_n 1, 1) := by decide +kernel
theorem dc_L_kindsHold_28 : decode bb_L_kindsHold 28 = .ok (.iconst 1, 1) := by decide +kernel
theorem dc_L_kindsHold_29 : decode bb_L_kindsHold 29 = .ok (.if_icmp .lt 8, 3) := by decide +kernel
theorem dc_L_kindsHold_32 : decode bb_L_kindsHold 32 = .ok (.iload_n 1, 1) := by decide +kernel
theorem dc_L_kindsHold_33 : decode bb_L_kindsHold 33 = .ok (.iconst 2, 1) := by decide +kernel
theorem dc_L_kindsHold_34 : decode bb_L_kindsHold 34 = .ok (.if_icmp .le 5, 3) := by decide +kernel
theorem dc_L_kindsHold_37 : decode bb_L_kindsHold 37 = .ok (.iconst 0, 1) := by decide +kernel
theorem dc_L_kindsHold_38 : decode bb_L_kindsHold 38 = .ok (.ireturn, 1) := by decide +kernel
theorem dc_L_kindsHold_39 : decode bb_L_kindsHold 39 = .ok (.iconst 0, 1) := by decide +kernel
theorem dc_L_kindsHold_40 : decode bb_L_kindsHold 40 = .ok (.istore_n 2, 1) := by decide +kernel
theorem dc_L_kindsHold_41 : decode bb_L_kindsHold 41 = .ok (.iload_n 2, 1) := by decide +kernel
theorem dc_L_kindsHold_42 : decode bb_L_kindsHold 42 = .ok (.aload_n 0, 1) := by decide +kernel
theorem dc_L_kindsHold_43 : decode bb_L_kindsHold 43 = .ok (.getfield 20, 3) := by decide +kernel
theorem dc_L_kindsHold_46 : decode bb_L_kindsHold 46 = .ok (.if_icmp .ge 33, 3) := by decide +kernel
theorem dc_L_kindsHold_49 : decode bb_L_kindsHold 49 = .ok (.aload_n 0, 1) := by decide +kernel
theorem dc_L_kindsHold_50 : decode bb_L_kindsHold 50 = .ok (.getfield 17, 3) := by decide +kernel
theorem dc_L_kindsHold_53 : decode bb_L_kindsHold 53 = .ok (.bipush 6, 2) := by decide +kernel
theorem dc_L_kindsHold_55 : decode bb_L_kindsHold 55 = .ok (.aaload, 1) := by decide +kernel
theorem dc_L_kindsHold_56 : decode bb_L_kindsHold 56 = .ok (.iload_n 2, 1) := by decide +kernel
theorem dc_L_kindsHold_57 : decode bb_L_kindsHold 57 = .ok (.iaload, 1) := by decide +kernel
theorem dc_L_kindsHold_58 : decode bb_L_kindsHold 58 = .ok (.bipush 84, 2) := by decide +kernel
theorem dc_L_kindsHold_60 : decode bb_L_kindsHold 60 = .ok (.if_icmp .ne 13, 3) := by decide +kernel
theorem dc_L_kindsHold_63 : decode bb_L_kindsHold 63 = .ok (.aload_n 0, 1) := by decide +kernel
theorem dc_L_kindsHold_64 : decode bb_L_kindsHold 64 = .ok (.iload_n 2, 1) := by decide +kernel
theorem dc_L_kindsHold_65 : decode bb_L_kindsHold 65 = .ok (.invokevirtual 74, 3) := by decide +kernel
theorem dc_L_kindsHold_68 : decode bb_L_kindsHold 68 = .ok (.ifCond .ne 5, 3) := by decide +kernel
theorem dc_L_kindsHold_71 : decode bb_L_kindsHold 71 = .ok (.iconst 0, 1) := by decide +kernel
theorem dc_L_kindsHold_72 : decode bb_L_kindsHold 72 = .ok (.ireturn, 1) := by decide +kernel
theorem dc_L_kindsHold_73 : decode bb_L_kindsHold 73 = .ok (.iinc 2 1, 3) := by decide +kernel
theorem dc_L_kindsHold_76 : decode bb_L_kindsHold 76 = .ok (.goto (-35), 3) := by decide +kernel
theorem dc_L_kindsHold_79 : decode bb_L_kindsHold 79 = .ok (.iconst 1, 1) := by decide +kernel
theorem dc_L_kindsHold_80 : decode bb_L_kindsHold 80 = .ok (.ireturn, 1) := by decide +kernel
theorem dc_L_countIn_0 : decode bb_L_countIn 0 = .ok (.iconst 0, 1) := by decide +kernel
theorem dc_L_countIn_1 : decode bb_L_countIn 1 = .ok (.istore_n 3, 1) := by decide +kernel
theorem dc_L_countIn_2 : decode bb_L_countIn 2 = .ok (.iconst 0, 1) := by decide +kernel
theorem dc_L_countIn_3 : decode bb_L_countIn 3 = .ok (.istore 4, 2) := by decide +kernel
theorem dc_L_countIn_5 : decode bb_L_countIn 5 = .ok (.iload 4, 2) := by decide +kernel
theorem dc_L_countIn_7 : decode bb_L_countIn 7 = .ok (.aload_n 0, 1) := by decide +kernel
theorem dc_L_countIn_8 : decode bb_L_countIn 8 = .ok (.getfield 20, 3) := by decide +kernel
theorem dc_L_countIn_11 : decode bb_L_countIn 11 = .ok (.if_icmp .ge 39, 3) := by decide +kernel
theorem dc_L_countIn_14 : decode bb_L_countIn 14 = .ok (.aload_n 0, 1) := by decide +kernel
theorem dc_L_countIn_15 : decode bb_L_countIn 15 = .ok (.getfield 17, 3) := by decide +kernel
theorem dc_L_countIn_18 : decode bb_L_countIn 18 = .ok (.iconst 5, 1) := by decide +kernel
theorem dc_L_countIn_19 : decode bb_L_countIn 19 = .ok (.aaload, 1) := by decide +kernel
theorem dc_L_countIn_20 : decode bb_L_countIn 20 = .ok (.iload 4, 2) := by decide +kernel
theorem dc_L_countIn_22 : decode bb_L_countIn 22 = .ok (.iaload, 1) := by decide +kernel
theorem dc_L_countIn_23 : decode bb_L_countIn 23 = .ok (.iload_n 1, 1) := by decide +kernel
theorem dc_L_countIn_24 : decode bb_L_countIn 24 = .ok (.if_icmp .ne 20, 3) := by decide +kernel
theorem dc_L_countIn_27 : decode bb_L_countIn 27 = .ok (.aload_n 0, 1) := by decide +kernel
theorem dc_L_countIn_28 : decode bb_L_countIn 28 = .ok (.getfield 17, 3) := by decide +kernel
theorem dc_L_countIn_31 : decode bb_L_countIn 31 = .ok (.bipush 6, 2) := by decide +kernel
theorem dc_L_countIn_33 : decode bb_L_countIn 33 = .ok (.aaload, 1) := by decide +kernel
theorem dc_L_countIn_34 : decode bb_L_countIn 34 = .ok (.iload 4, 2) := by decide +kernel
theorem dc_L_countIn_36 : decode bb_L_countIn 36 = .ok (.iaload, 1) := by decide +kernel
theorem dc_L_countIn_37 : decode bb_L_countIn 37 = .ok (.iload_n 2, 1) := by decide +kernel
theorem dc_L_countIn_38 : decode bb_L_countIn 38 = .ok (.if_icmp .ne 6, 3) := by decide +kernel
theorem dc_L_countIn_41 : decode bb_L_countIn 41 = .ok (.iinc 3 1, 3) := by decide +kernel
theorem dc_L_countIn_44 : decode bb_L_countIn 44 = .ok (.iinc 4 1, 3) := by decide +kernel
theorem dc_L_countIn_47 : decode bb_L_countIn 47 = .ok (.goto (-42), 3) := by decide +kernel
theorem dc_L_countIn_50 : decode bb_L_countIn 50 = .ok (.iload_n 3, 1) := by decide +kernel
theorem dc_L_countIn_51 : decode bb_L_countIn 51 = .ok (.ireturn, 1) := by decide +kernel
theorem dc_L_find_0 : decode bb_L_find 0 = .ok (.iconst 0, 1) := by decide +kernel
theorem dc_L_find_1 : decode bb_L_find 1 = .ok (.istore_n 3, 1) := by decide +kernel
theorem dc_L_find_2 : decode bb_L_find 2 = .ok (.iload_n 3, 1) := by decide +kernel
theorem dc_L_find_3 : decode bb_L_find 3 = .ok (.aload_n 0, 1) := by decide +kernel
theorem dc_L_find_4 : decode bb_L_find 4 = .ok (.getfield 20, 3) := by decide +kernel
theorem dc_L_find_7 : decode bb_L_find 7 = .ok (.if_icmp .ge 36, 3) := by decide +kernel
theorem dc_L_find_10 : decode bb_L_find 10 = .ok (.aload_n 0, 1) := by decide +kernel
theorem dc_L_find_11 : decode bb_L_find 11 = .ok (.getfield 17, 3) := by decide +kernel
theorem dc_L_find_14 : decode bb_L_find 14 = .ok (.iconst 5, 1) := by decide +kernel
theorem dc_L_find_15 : decode bb_L_find 15 = .ok (.aaload, 1) := by decide +kernel
theorem dc_L_find_16 : decode bb_L_find 16 = .ok (.iload_n 3, 1) := by decide +kernel
theorem dc_L_find_17 : decode bb_L_find 17 = .ok (.iaload, 1) := by decide +kernel
theorem dc_L_find_18 : decode bb_L_find 18 = .ok (.iload_n 1, 1) := by decide +kernel
theorem dc_L_find_19 : decode bb_L_find 19 = .ok (.if_icmp .ne 18, 3) := by decide +kernel
theorem dc_L_find_22 : decode bb_L_find 22 = .ok (.aload_n 0, 1) := by decide +kernel
theorem dc_L_find_23 : decode bb_L_find 23 = .ok (.getfield 17, 3) := by decide +kernel
theorem dc_L_find_26 : decode bb_L_find 26 = .ok (.bipush 6, 2) := by decide +kernel
theorem dc_L_find_28 : decode bb_L_find 28 = .ok (.aaload, 1) := by decide +kernel
theorem dc_L_find_29 : decode bb_L_find 29 = .ok (.iload_n 3, 1) := by decide +kernel
theorem dc_L_find_30 : decode bb_L_find 30 = .ok (.iaload, 1) := by decide +kernel
theorem dc_L_find_31 : decode bb_L_find 31 = .ok (.iload_n 2, 1) := by decide +kernel
theorem dc_L_find_32 : decode bb_L_find 32 = .ok (.if_icmp .ne 5, 3) := by decide +kernel
theorem dc_L_find_35 : decode bb_L_find 35 = .ok (.iload_n 3, 1) := by decide +kernel
theorem dc_L_find_36 : decode bb_L_find 36 = .ok (.ireturn, 1) := by decide +kernel
theorem dc_L_find_37 : decode bb_L_find 37 = .ok (.iinc 3 1, 3) := by decide +kernel
theorem dc_L_find_40 : decode bb_L_find 40 = .ok (.goto (-38), 3) := by decide +kernel
theorem dc_L_find_43 : decode bb_L_find 43 = .ok (.iconst (-1), 1) := by decide +kernel
theorem dc_L_find_44 : decode bb_L_find 44 = .ok (.ireturn, 1) := by decide +kernel
theorem dc_L_trackKindsHold_0 : decode bb_L_trackKindsHold 0 = .ok (.aload_n 0, 1) := by decide +kernel
theorem dc_L_trackKindsHold_1 : decode bb_L_trackKindsHold 1 = .ok (.iload_n 1, 1) := by decide +kernel
theorem dc_L_trackKindsHold_2 : decode bb_L_trackKindsHold 2 = .ok (.bipush 115, 2) := by decide +kernel
theorem dc_L_trackKindsHold_4 : decode bb_L_trackKindsHold 4 = .ok (.invokevirtual 68, 3) := by decide +kernel
theorem dc_L_trackKindsHold_7 : decode bb_L_trackKindsHold 7 = .ok (.iconst 1, 1) := by decide +kernel
theorem dc_L_trackKindsHold_8 : decode bb_L_trackKindsHold 8 = .ok (.if_icmp .ne 81, 3) := by decide +kernel
theorem dc_L_trackKindsHold_11 : decode bb_L_trackKindsHold 11 = .ok (.aload_n 0, 1) := by decide +kernel
theorem dc_L_trackKindsHold_12 : decode bb_L_trackKindsHold 12 = .ok (.iload_n 1, 1) := by decide +kernel
theorem dc_L_trackKindsHold_13 : decode bb_L_trackKindsHold 13 = .ok (.bipush 107, 2) := by decide +kernel
theorem dc_L_trackKindsHold_15 : decode bb_L_trackKindsHold 15 = .ok (.invokevirtual 68, 3) := by decide +kernel
theorem dc_L_trackKindsHold_18 : decode bb_L_trackKindsHold 18 = .ok (.iconst 1, 1) := by decide +kernel
theorem dc_L_trackKindsHold_19 : decode bb_L_trackKindsHold 19 = .ok (.if_icmp .ne 70, 3) := by decide +kernel
theorem dc_L_trackKindsHold_22 : decode bb_L_trackKindsHold 22 = .ok (.aload_n 0, 1) := by decide +kernel
theorem dc_L_trackKindsHold_23 : decode bb_L_trackKindsHold 23 = .ok (.iload_n 1, 1) := by decide +kernel
theorem dc_L_trackKindsHold_24 : decode bb_L_trackKindsHold 24 = .ok (.bipush 122, 2) := by decide +kernel
theorem dc_L_trackKindsHold_26 : decode bb_L_trackKindsHold 26 = .ok (.invokevirtual 68, 3) := by decide +kernel
theorem dc_L_trackKindsHold_29 : decode bb_L_trackKindsHold 29 = .ok (.iconst 1, 1) := by decide +kernel
theorem dc_L_trackKindsHold_30 : decode bb_L_trackKindsHold 30 = .ok (.if_icmp .ne 59, 3) := by decide +kernel
theorem dc_L_trackKindsHold_33 : decode bb_L_trackKindsHold 33 = .ok (.aload_n 0, 1) := by decide +kernel
theorem dc_L_trackKindsHold_34 : decode bb_L_trackKindsHold 34 = .ok (.iload_n 1, 1) := by decide +kernel
theorem dc_L_trackKindsHold_35 : decode bb_L_trackKindsHold 35 = .ok (.bipush 111, 2) := by decide +kernel
theorem dc_L_trackKindsHold_37 : decode bb_L_trackKindsHold 37 = .ok (.invokevirtual 68, 3) := by decide +kernel
theorem dc_L_trackKindsHold_40 : decode bb_L_trackKindsHold 40 = .ok (.aload_n 0, 1) := by decide +kernel
theorem dc_L_trackKindsHold_41 : decode bb_L_trackKindsHold 41 = .ok (.iload_n 1, 1) := by decide +kernel
theorem dc_L_trackKindsHold_42 : decode bb_L_trackKindsHold 42 = .ok (.bipush 79, 2) := by decide +kernel
theorem dc_L_trackKindsHold_44 : decode bb_L_trackKindsHold 44 = .ok (.invokevirtual 68, 3) := by decide +kernel
theorem dc_L_trackKindsHold_47 : decode bb_L_trackKindsHold 47 = .ok (.iadd, 1) := by decide +kernel
theorem dc_L_trackKindsHold_48 : decode bb_L_trackKindsHold 48 = .ok (.iconst 1, 1) := by decide +kernel
theorem dc_L_trackKindsHold_49 : decode bb_L_trackKindsHold 49 = .ok (.if_icmp .ne 40, 3) := by decide +kernel
theorem dc_L_trackKindsHold_52 : decode bb_L_trackKindsHold 52 = .ok (.aload_n 0, 1) := by decide +kernel
theorem dc_L_trackKindsHold_53 : decode bb_L_trackKindsHold 53 = .ok (.iload_n 1, 1) := by decide +kernel
theorem dc_L_trackKindsHold_54 : decode bb_L_trackKindsHold 54 = .ok (.bipush 99, 2) := by decide +kernel
theorem dc_L_trackKindsHold_56 : decode bb_L_trackKindsHold 56 = .ok (.invokevirtual 68, 3) := by decide +kernel
theorem dc_L_trackKindsHold_59 : decode bb_L_trackKindsHold 59 = .ok (.iconst 1, 1) := by decide +kernel
theorem dc_L_trackKindsHold_60 : decode bb_L_trackKindsHold 60 = .ok (.if_icmp .gt 29, 3) := by decide +kernel
theorem dc_L_trackKindsHold_63 : decode bb_L_trackKindsHold 63 = .ok (.aload_n 0, 1) := by decide +kernel
theorem dc_L_trackKindsHold_64 : decode bb_L_trackKindsHold 64 = .ok (.iload_n 1, 1) := by decide +kernel
theorem dc_L_trackKindsHold_65 : decode bb_L_trackKindsHold 65 = .ok (.bipush 121, 2) := by decide +kernel
theorem dc_L_trackKindsHold_67 : decode bb_L_trackKindsHold 67 = .ok (.invokevirtual 68, 3) := by decide +kernel
theorem dc_L_trackKindsHold_70 : decode bb_L_trackKindsHold 70 = .ok (.iconst 1, 1) := by decide +kernel
theorem dc_L_trackKindsHold_71 : decode bb_L_trackKindsHold 71 = .ok (.if_icmp .gt 18, 3) := by decide +kernel
theorem dc_L_trackKindsHold_74 : decode bb_L_trackKindsHold 74 = .ok (.aload_n 0, 1) := by decide +kernel
theorem dc_L_trackKindsHold_75 : decode bb_L_trackKindsHold 75 = .ok (.iload_n 1, 1) := by decide +kernel
theorem dc_L_trackKindsHold_76 : decode bb_L_trackKindsHold 76 = .ok (.bipush 101, 2) := by decide +kernel
theorem dc_L_trackKindsHold_78 : decode bb_L_trackKindsHold 78 = .ok (.invokevirtual 68, 3) := by decide +kernel
theorem dc_L_trackKindsHold_81 : decode bb_L_trackKindsHold 81 = .ok (.iconst 1, 1) := by decide +kernel
theorem dc_L_trackKindsHold_82 : decode bb_L_trackKindsHold 82 = .ok (.if_icmp .gt 7, 3) := by decide +kernel
theorem dc_L_trackKindsHold_85 : decode bb_L_trackKindsHold 85 = .ok (.iconst 1, 1) := by decide +kernel
theorem dc_L_trackKindsHold_86 : decode bb_L_trackKindsHold 86 = .ok (.goto 4, 3) := by decide +kernel
theorem dc_L_trackKindsHold_89 : decode bb_L_trackKindsHold 89 = .ok (.iconst 0, 1) := by decide +kernel
theorem dc_L_trackKindsHold_90 : decode bb_L_trackKindsHold 90 = .ok (.ireturn, 1) := by decide +kernel
theorem dc_M_bindTracks_0 : decode bb_M_bindTracks 0 = .ok (.iconst 0, 1) := by decide +kernel
theorem dc_M_bindTracks_1 : decode bb_M_bindTracks 1 = .ok (.istore_n 1, 1) := by decide +kernel
theorem dc_M_bindTracks_2 : decode bb_M_bindTracks 2 = .ok (.iload_n 1, 1) := by decide +kernel
theorem dc_M_bindTracks_3 : decode bb_M_bindTracks 3 = .ok (.aload_n 0, 1) := by decide +kernel
theorem dc_M_bindTracks_4 : decode bb_M_bindTracks 4 = .ok (.getfield 21, 3) := by decide +kernel
theorem dc_M_bindTracks_7 : decode bb_M_bindTracks 7 = .ok (.invokevirtual 82, 3) := by decide +kernel
theorem dc_M_bindTracks_10 : decode bb_M_bindTracks 10 = .ok (.if_icmp .ge 55, 3) := by decide +kernel
theorem dc_M_bindTracks_13 : decode bb_M_bindTracks 13 = .ok (.aload_n 0, 1) := by decide +kernel
theorem dc_M_bindTracks_14 : decode bb_M_bindTracks 14 = .ok (.getfield 41, 3) := by decide +kernel
theorem dc_M_bindTracks_17 : decode bb_M_bindTracks 17 = .ok (.iconst 2, 1) := by decide +kernel
theorem dc_M_bindTracks_18 : decode bb_M_bindTracks 18 = .ok (.if_icmp .ge 47, 3) := by decide +kernel
theorem dc_M_bindTracks_21 : decode bb_M_bindTracks 21 = .ok (.aload_n 0, 1) := by decide +kernel
theorem dc_M_bindTracks_22 : decode bb_M_bindTracks 22 = .ok (.getfield 21, 3) := by decide +kernel
theorem dc_M_bindTracks_25 : decode bb_M_bindTracks 25 = .ok (.iload_n 1, 1) := by decide +kernel
theorem dc_M_bindTracks_26 : decode bb_M_bindTracks 26 = .ok (.bipush 6, 2) := by decide +kernel
theorem dc_M_bindTracks_28 : decode bb_M_bindTracks 28 = .ok (.invokevirtual 83, 3) := by decide +kernel
theorem dc_M_bindTracks_31 : decode bb_M_bindTracks 31 = .ok (.bipush 84, 2) := by decide +kernel
theorem dc_M_bindTracks_33 : decode bb_M_bindTracks 33 = .ok (.if_icmp .ne 26, 3) := by decide +kernel
theorem dc_M_bindTracks_36 : decode bb_M_bindTracks 36 = .ok (.aload_n 0, 1) := by decide +kernel
theorem dc_M_bindTracks_37 : decode bb_M_bindTracks 37 = .ok (.getfield 27, 3) := by decide +kernel
theorem dc_M_bindTracks_40 : decode bb_M_bindTracks 40 = .ok (.aload_n 0, 1) := by decide +kernel
theorem dc_M_bindTracks_41 : decode bb_M_bindTracks 41 = .ok (.getfield 41, 3) := by decide +kernel
theorem dc_M_bindTracks_44 : decode bb_M_bindTracks 44 = .ok (.aaload, 1) := by decide +kernel
theorem dc_M_bindTracks_45 : decode bb_M_bindTracks 45 = .ok (.iload_n 1, 1) := by decide +kernel
theorem dc_M_bindTracks_46 : decode bb_M_bindTracks 46 = .ok (.invokevirtual 119, 3) := by decide +kernel
theorem dc_M_bindTracks_49 : decode bb_M_bindTracks 49 = .ok (.aload_n 0, 1) := by decide +kernel
theorem dc_M_bindTracks_50 : decode bb_M_bindTracks 50 = .ok (.dup, 1) := by decide +kernel
theorem dc_M_bindTracks_51 : decode bb_M_bindTracks 51 = .ok (.getfield 41, 3) := by decide +kernel
theorem dc_M_bindTracks_54 : decode bb_M_bindTracks 54 = .ok (.iconst 1, 1) := by decide +kernel
theorem dc_M_bindTracks_55 : decode bb_M_bindTracks 55 = .ok (.iadd, 1) := by decide +kernel
theorem dc_M_bindTracks_56 : decode bb_M_bindTracks 56 = .ok (.putfield 41, 3) := by decide +kernel
theorem dc_M_bindTracks_59 : decode bb_M_bindTracks 59 = .ok (.iinc 1 1, 3) := by decide +kernel
theorem dc_M_bindTracks_62 : decode bb_M_bindTracks 62 = .ok (.goto (-60), 3) := by decide +kernel
theorem dc_M_bindTracks_65 : decode bb_M_bindTracks 65 = .ok (.return_, 1) := by decide +kernel
theorem dc_L_size_0 : decode bb_L_size 0 = .ok (.aload_n 0, 1) := by decide +kernel
theorem dc_L_size_1 : decode bb_L_size 1 = .ok (.getfield 20, 3) := by decide +kernel
theorem dc_L_size_4 : decode bb_L_size 4 = .ok (.ireturn, 1) := by decide +kernel
theorem dc_K_bind_0 : decode bb_K_bind 0 = .ok (.aload_n 0, 1) := by decide +kernel
theorem dc_K_bind_1 : decode bb_K_bind 1 = .ok (.getfield 20, 3) := by decide +kernel
theorem dc_K_bind_4 : decode bb_K_bind 4 = .ok (.aload_n 0, 1) := by decide +kernel
theorem dc_K_bind_5 : decode bb_K_bind 5 = .ok (.getfield 9, 3) := by decide +kernel
theorem dc_K_bind_8 : decode bb_K_bind 8 = .ok (.aload_n 0, 1) := by decide +kernel
theorem dc_K_bind_9 : decode bb_K_bind 9 = .ok (.getfield 9, 3) := by decide +kernel
theorem dc_K_bind_12 : decode bb_K_bind 12 = .ok (.iload_n 1, 1) := by decide +kernel
theorem dc_K_bind_13 : decode bb_K_bind 13 = .ok (.bipush 115, 2) := by decide +kernel
theorem dc_K_bind_15 : decode bb_K_bind 15 = .ok (.invokevirtual 55, 3) := by decide +kernel
theorem dc_K_bind_18 : decode bb_K_bind 18 = .ok (.iconst 2, 1) := by decide +kernel
theorem dc_K_bind_19 : decode bb_K_bind 19 = .ok (.invokevirtual 61, 3) := by decide +kernel
theorem dc_K_bind_22 : decode bb_K_bind 22 = .ok (.aload_n 0, 1) := by decide +kernel
theorem dc_K_bind_23 : decode bb_K_bind 23 = .ok (.getfield 24, 3) := by decide +kernel
theorem dc_K_bind_26 : decode bb_K_bind 26 = .ok (.aload_n 0, 1) := by decide +kernel
theorem dc_K_bind_27 : decode bb_K_bind 27 = .ok (.getfield 9, 3) := by decide +kernel
theorem dc_K_bind_30 : decode bb_K_bind 30 = .ok (.aload_n 0, 1) := by decide +kernel
theorem dc_K_bind_31 : decode bb_K_bind 31 = .ok (.getfield 9, 3) := by decide +kernel
theorem dc_K_bind_34 : decode bb_K_bind 34 = .ok (.iload_n 1, 1) := by decide +kernel
theorem dc_K_bind_35 : decode bb_K_bind 35 = .ok (.bipush 99, 2) := by decide +kernel
theorem dc_K_bind_37 : decode bb_K_bind 37 = .ok (.invokevirtual 55, 3) := by decide +kernel
theorem dc_K_bind_40 : decode bb_K_bind 40 = .ok (.iconst 2, 1) := by decide +kernel
theorem dc_K_bind_41 : decode bb_K_bind 41 = .ok (.invokevirtual 61, 3) := by decide +kernel
theorem dc_K_bind_44 : decode bb_K_bind 44 = .ok (.aload_n 0, 1) := by decide +kernel
theorem dc_K_bind_45 : decode bb_K_bind 45 = .ok (.getfield 27, 3) := by decide +kernel
theorem dc_K_bind_48 : decode bb_K_bind 48 = .ok (.aload_n 0, 1) := by decide +kernel
theorem dc_K_bind_49 : decode bb_K_bind 49 = .ok (.getfield 9, 3) := by decide +kernel
theorem dc_K_bind_52 : decode bb_K_bind 52 = .ok (.aload_n 0, 1) := by decide +kernel
theorem dc_K_bind_53 : decode bb_K_bind 53 = .ok (.getfield 9, 3) := by decide +kernel
theorem dc_K_bind_56 : decode bb_K_bind 56 = .ok (.iload_n 1, 1) := by decide +kernel
theorem dc_K_bind_57 : decode bb_K_bind 57 = .ok (.bipush 107, 2) := by decide +kernel
theorem dc_K_bind_59 : decode bb_K_bind 59 = .ok (.invokevirtual 55, 3) := by decide +kernel
theorem dc_K_bind_62 : decode bb_K_bind 62 = .ok (.iconst 3, 1) := by decide +kernel
theorem dc_K_bind_63 : decode bb_K_bind 63 = .ok (.invokevirtual 61, 3) := by decide +kernel
theorem dc_K_bind_66 : decode bb_K_bind 66 = .ok (.aload_n 0, 1) := by decide +kernel
theorem dc_K_bind_67 : decode bb_K_bind 67 = .ok (.getfield 33, 3) := by decide +kernel
theorem dc_K_bind_70 : decode bb_K_bind 70 = .ok (.aload_n 0, 1) := by decide +kernel
theorem dc_K_bind_71 : decode bb_K_bind 71 = .ok (.getfield 9, 3) := by decide +kernel
theorem dc_K_bind_74 : decode bb_K_bind 74 = .ok (.aload_n 0, 1) := by decide +kernel
theorem dc_K_bind_75 : decode bb_K_bind 75 = .ok (.getfield 9, 3) := by decide +kernel
theorem dc_K_bind_78 : decode bb_K_bind 78 = .ok (.iload_n 1, 1) := by decide +kernel
theorem dc_K_bind_79 : decode bb_K_bind 79 = .ok (.bipush 121, 2) := by decide +kernel
theorem dc_K_bind_81 : decode bb_K_bind 81 = .ok (.invokevirtual 55, 3) := by decide +kernel
theorem dc_K_bind_84 : decode bb_K_bind 84 = .ok (.iconst 1, 1) := by decide +kernel
theorem dc_K_bind_85 : decode bb_K_bind 85 = .ok (.invokevirtual 61, 3) := by decide +kernel
theorem dc_K_bind_88 : decode bb_K_bind 88 = .ok (.aload_n 0, 1) := by decide +kernel
theorem dc_K_bind_89 : decode bb_K_bind 89 = .ok (.getfield 36, 3) := by decide +kernel
theorem dc_K_bind_92 : decode bb_K_bind 92 = .ok (.aload_n 0, 1) := by decide +kernel
theorem dc_K_bind_93 : decode bb_K_bind 93 = .ok (.getfield 9, 3) := by decide +kernel
theorem dc_K_bind_96 : decode bb_K_bind 96 = .ok (.aload_n 0, 1) := by decide +kernel
theorem dc_K_bind_97 : decode bb_K_bind 97 = .ok (.getfield 9, 3) := by decide +kernel
theorem dc_K_bind_100 : decode bb_K_bind 100 = .ok (.iload_n 1, 1) := by decide +kernel
theorem dc_K_bind_101 : decode bb_K_bind 101 = .ok (.bipush 101, 2) := by decide +kernel
theorem dc_K_bind_103 : decode bb_K_bind 103 = .ok (.invokevirtual 55, 3) := by decide +kernel
theorem dc_K_bind_106 : decode bb_K_bind 106 = .ok (.iconst 2, 1) := by decide +kernel
theorem dc_K_bind_107 : decode bb_K_bind 107 = .ok (.invokevirtual 61, 3) := by decide +kernel
theorem dc_K_bind_110 : decode bb_K_bind 110 = .ok (.aload_n 0, 1) := by decide +kernel
theorem dc_K_bind_111 : decode bb_K_bind 111 = .ok (.getfield 42, 3) := by decide +kernel
theorem dc_K_bind_114 : decode bb_K_bind 114 = .ok (.aload_n 0, 1) := by decide +kernel
theorem dc_K_bind_115 : decode bb_K_bind 115 = .ok (.getfield 9, 3) := by decide +kernel
theorem dc_K_bind_118 : decode bb_K_bind 118 = .ok (.aload_n 0, 1) := by decide +kernel
theorem dc_K_bind_119 : decode bb_K_bind 119 = .ok (.getfield 9, 3) := by decide +kernel
theorem dc_K_bind_122 : decode bb_K_bind 122 = .ok (.iload_n 1, 1) := by decide +kernel
theorem dc_K_bind_123 : decode bb_K_bind 123 = .ok (.bipush 122, 2) := by decide +kernel
theorem dc_K_bind_125 : decode bb_K_bind 125 = .ok (.invokevirtual 55, 3) := by decide +kernel
theorem dc_K_bind_128 : decode bb_K_bind 128 = .ok (.invokevirtual 65, 3) := by decide +kernel
theorem dc_K_bind_131 : decode bb_K_bind 131 = .ok (.aload_n 0, 1) := by decide +kernel
theorem dc_K_bind_132 : decode bb_K_bind 132 = .ok (.getfield 9, 3) := by decide +kernel
theorem dc_K_bind_135 : decode bb_K_bind 135 = .ok (.iload_n 1, 1) := by decide +kernel
theorem dc_K_bind_136 : decode bb_K_bind 136 = .ok (.bipush 111, 2) := by decide +kernel
theorem dc_K_bind_138 : decode bb_K_bind 138 = .ok (.invokevirtual 55, 3) := by decide +kernel
theorem dc_K_bind_141 : decode bb_K_bind 141 = .ok (.istore_n 2, 1) := by decide +kernel
theorem dc_K_bind_142 : decode bb_K_bind 142 = .ok (.iload_n 2, 1) := by decide +kernel
theorem dc_K_bind_143 : decode bb_K_bind 143 = .ok (.iconst (-1), 1) := by decide +kernel
theorem dc_K_bind_144 : decode bb_K_bind 144 = .ok (.if_icmp .eq 19, 3) := by decide +kernel
theorem dc_K_bind_147 : decode bb_K_bind 147 = .ok (.aload_n 0, 1) := by decide +kernel
theorem dc_K_bind_148 : decode bb_K_bind 148 = .ok (.getfield 30, 3) := by decide +kernel
theorem dc_K_bind_151 : decode bb_K_bind 151 = .ok (.aload_n 0, 1) := by decide +kernel
theorem dc_K_bind_152 : decode bb_K_bind 152 = .ok (.getfield 9, 3) := by decide +kernel
theorem dc_K_bind_155 : decode bb_K_bind 155 = .ok (.iload_n 2, 1) := by decide +kernel
theorem dc_K_bind_156 : decode bb_K_bind 156 = .ok (.iconst 1, 1) := by decide +kernel
theorem dc_K_bind_157 : decode bb_K_bind 157 = .ok (.invokevirtual 61, 3) := by decide +kernel
theorem dc_K_bind_160 : decode bb_K_bind 160 = .ok (.goto 25, 3) := by decide +kernel
theorem dc_K_bind_163 : decode bb_K_bind 163 = .ok (.aload_n 0, 1) := by decide +kernel
theorem dc_K_bind_164 : decode bb_K_bind 164 = .ok (.getfield 30, 3) := by decide +kernel
theorem dc_K_bind_167 : decode bb_K_bind 167 = .ok (.aload_n 0, 1) := by decide +kernel
theorem dc_K_bind_168 : decode bb_K_bind 168 = .ok (.getfield 9, 3) := by decide +kernel
theorem dc_K_bind_171 : decode bb_K_bind 171 = .ok (.aload_n 0, 1) := by decide +kernel
theorem dc_K_bind_172 : decode bb_K_bind 172 = .ok (.getfield 9, 3) := by decide +kernel
theorem dc_K_bind_175 : decode bb_K_bind 175 = .ok (.iload_n 1, 1) := by decide +kernel
theorem dc_K_bind_176 : decode bb_K_bind 176 = .ok (.bipush 79, 2) := by decide +kernel
theorem dc_K_bind_178 : decode bb_K_bind 178 = .ok (.invokevirtual 55, 3) := by decide +kernel
theorem dc_K_bind_181 : decode bb_K_bind 181 = .ok (.iconst 2, 1) := by decide +kernel
theorem dc_K_bind_182 : decode bb_K_bind 182 = .ok (.invokevirtual 61, 3) := by decide +kernel
theorem dc_K_bind_185 : decode bb_K_bind 185 = .ok (.aload_n 0, 1) := by decide +kernel
theorem dc_K_bind_186 : decode bb_K_bind 186 = .ok (.iconst 0, 1) := by decide +kernel
theorem dc_K_bind_187 : decode bb_K_bind 187 = .ok (.putfield 51, 3) := by decide +kernel
theorem dc_K_bind_190 : decode bb_K_bind 190 = .ok (.return_, 1) := by decide +kernel
theorem dc_T_bind_0 : decode bb_T_bind 0 = .ok (.aload_n 0, 1) := by decide +kernel
theorem dc_T_bind_1 : decode bb_T_bind 1 = .ok (.iload_n 2, 1) := by decide +kernel
theorem dc_T_bind_2 : decode bb_T_bind 2 = .ok (.iconst (-1), 1) := by decide +kernel
theorem dc_T_bind_3 : decode bb_T_bind 3 = .ok (.if_icmp .eq 7, 3) := by decide +kernel
theorem dc_T_bind_6 : decode bb_T_bind 6 = .ok (.iconst 1, 1) := by decide +kernel
theorem dc_T_bind_7 : decode bb_T_bind 7 = .ok (.goto 4, 3) := by decide +kernel
theorem dc_T_bind_10 : decode bb_T_bind 10 = .ok (.iconst 0, 1) := by decide +kernel
theorem dc_T_bind_11 : decode bb_T_bind 11 = .ok (.putfield 13, 3) := by decide +kernel
theorem dc_T_bind_14 : decode bb_T_bind 14 = .ok (.aload_n 0, 1) := by decide +kernel
theorem dc_T_bind_15 : decode bb_T_bind 15 = .ok (.aload_n 0, 1) := by decide +kernel
theorem dc_T_bind_16 : decode bb_T_bind 16 = .ok (.getfield 13, 3) := by decide +kernel
theorem dc_T_bind_19 : decode bb_T_bind 19 = .ok (.ifCond .eq 11, 3) := by decide +kernel
theorem dc_T_bind_22 : decode bb_T_bind 22 = .ok (.aload_n 1, 1) := by decide +kernel
theorem dc_T_bind_23 : decode bb_T_bind 23 = .ok (.iload_n 2, 1) := by decide +kernel
theorem dc_T_bind_24 : decode bb_T_bind 24 = .ok (.invokevirtual 32, 3) := by decide +kernel
theorem dc_T_bind_27 : decode bb_T_bind 27 = .ok (.goto 4, 3) := by decide +kernel
theorem dc_T_bind_30 : decode bb_T_bind 30 = .ok (.iconst 0, 1) := by decide +kernel
theorem dc_T_bind_31 : decode bb_T_bind 31 = .ok (.putfield 17, 3) := by decide +kernel
theorem dc_T_bind_34 : decode bb_T_bind 34 = .ok (.aload_n 0, 1) := by decide +kernel
theorem dc_T_bind_35 : decode bb_T_bind 35 = .ok (.aload_n 0, 1) := by decide +kernel
theorem dc_T_bind_36 : decode bb_T_bind 36 = .ok (.getfield 13, 3) := by decide +kernel
theorem dc_T_bind_39 : decode bb_T_bind 39 = .ok (.ifCond .eq 11, 3) := by decide +kernel
theorem dc_T_bind_42 : decode bb_T_bind 42 = .ok (.aload_n 1, 1) := by decide +kernel
theorem dc_T_bind_43 : decode bb_T_bind 43 = .ok (.iload_n 2, 1) := by decide +kernel
theorem dc_T_bind_44 : decode bb_T_bind 44 = .ok (.invokevirtual 36, 3) := by decide +kernel
theorem dc_T_bind_47 : decode bb_T_bind 47 = .ok (.goto 4, 3) := by decide +kernel
theorem dc_T_bind_50 : decode bb_T_bind 50 = .ok (.iconst 0, 1) := by decide +kernel
theorem dc_T_bind_51 : decode bb_T_bind 51 = .ok (.putfield 21, 3) := by decide +kernel
theorem dc_T_bind_54 : decode bb_T_bind 54 = .ok (.aload_n 0, 1) := by decide +kernel
theorem dc_T_bind_55 : decode bb_T_bind 55 = .ok (.iload_n 3, 1) := by decide +kernel
theorem dc_T_bind_56 : decode bb_T_bind 56 = .ok (.putfield 24, 3) := by decide +kernel
theorem dc_T_bind_59 : decode bb_T_bind 59 = .ok (.aload_n 0, 1) := by decide +kernel
theorem dc_T_bind_60 : decode bb_T_bind 60 = .ok (.aload_n 0, 1) := by decide +kernel
theorem dc_T_bind_61 : decode bb_T_bind 61 = .ok (.getfield 21, 3) := by decide +kernel
theorem dc_T_bind_64 : decode bb_T_bind 64 = .ok (.iconst 1, 1) := by decide +kernel
theorem dc_T_bind_65 : decode bb_T_bind 65 = .ok (.if_icmp .lt 17, 3) := by decide +kernel
theorem dc_T_bind_68 : decode bb_T_bind 68 = .ok (.aload_n 0, 1) := by decide +kernel
theorem dc_T_bind_69 : decode bb_T_bind 69 = .ok (.getfield 7, 3) := by decide +kernel
theorem dc_T_bind_72 : decode bb_T_bind 72 = .ok (.aload_n 0, 1) := by decide +kernel
theorem dc_T_bind_73 : decode bb_T_bind 73 = .ok (.getfield 17, 3) := by decide +kernel
theorem dc_T_bind_76 : decode bb_T_bind 76 = .ok (.invokevirtual 39, 3) := by decide +kernel
theorem dc_T_bind_79 : decode bb_T_bind 79 = .ok (.goto 4, 3) := by decide +kernel
theorem dc_T_bind_82 : decode bb_T_bind 82 = .ok (.iconst 0, 1) := by decide +kernel
theorem dc_T_bind_83 : decode bb_T_bind 83 = .ok (.putfield 27, 3) := by decide +kernel
theorem dc_T_bind_86 : decode bb_T_bind 86 = .ok (.return_, 1) := by decide +kernel
theorem dc_L_payloadSizeOf_0 : decode bb_L_payloadSizeOf 0 = .ok (.iload_n 1, 1) := by decide +kernel
theorem dc_L_payloadSizeOf_1 : decode bb_L_payloadSizeOf 1 = .ok (.ifCond .lt 31, 3) := by decide +kernel
theorem dc_L_payloadSizeOf_4 : decode bb_L_payloadSizeOf 4 = .ok (.iload_n 1, 1) := by decide +kernel
theorem dc_L_payloadSizeOf_5 : decode bb_L_payloadSizeOf 5 = .ok (.aload_n 0, 1) := by decide +kernel
theorem dc_L_payloadSizeOf_6 : decode bb_L_payloadSizeOf 6 = .ok (.getfield 20, 3) := by decide +kernel
theorem dc_L_payloadSizeOf_9 : decode bb_L_payloadSizeOf 9 = .ok (.if_icmp .ge 23, 3) := by decide +kernel
theorem dc_L_payloadSizeOf_12 : decode bb_L_payloadSizeOf 12 = .ok (.aload_n 0, 1) := by decide +kernel
theorem dc_L_payloadSizeOf_13 : decode bb_L_payloadSizeOf 13 = .ok (.getfield 17, 3) := by decide +kernel
theorem dc_L_payloadSizeOf_16 : decode bb_L_payloadSizeOf 16 = .ok (.iconst 1, 1) := by decide +kernel
theorem dc_L_payloadSizeOf_17 : decode bb_L_payloadSizeOf 17 = .ok (.aaload, 1) := by decide +kernel
theorem dc_L_payloadSizeOf_18 : decode bb_L_payloadSizeOf 18 = .ok (.iload_n 1, 1) := by decide +kernel
theorem dc_L_payloadSizeOf_19 : decode bb_L_payloadSizeOf 19 = .ok (.iaload, 1) := by decide +kernel
theorem dc_L_payloadSizeOf_20 : decode bb_L_payloadSizeOf 20 = .ok (.aload_n 0, 1) := by decide +kernel
theorem dc_L_payloadSizeOf_21 : decode bb_L_payloadSizeOf 21 = .ok (.getfield 17, 3) := by decide +kernel
theorem dc_L_payloadSizeOf_24 : decode bb_L_payloadSizeOf 24 = .ok (.iconst 3, 1) := by decide +kernel
theorem dc_L_payloadSizeOf_25 : decode bb_L_payloadSizeOf 25 = .ok (.aaload, 1) := by decide +kernel
theorem dc_L_payloadSizeOf_26 : decode bb_L_payloadSizeOf 26 = .ok (.iload_n 1, 1) := by decide +kernel
theorem dc_L_payloadSizeOf_27 : decode bb_L_payloadSizeOf 27 = .ok (.iaload, 1) := by decide +kernel
theorem dc_L_payloadSizeOf_28 : decode bb_L_payloadSizeOf 28 = .ok (.isub, 1) := by decide +kernel
theorem dc_L_payloadSizeOf_29 : decode bb_L_payloadSizeOf 29 = .ok (.goto 6, 3) := by decide +kernel
theorem dc_L_payloadSizeOf_32 : decode bb_L_payloadSizeOf 32 = .ok (.sipush (-1000), 3) := by decide +kernel
theorem dc_L_payloadSizeOf_35 : decode bb_L_payloadSizeOf 35 = .ok (.ireturn, 1) := by decide +kernel
theorem dc_Z_bind_0 : decode bb_Z_bind 0 = .ok (.aload_n 0, 1) := by decide +kernel
theorem dc_Z_bind_1 : decode bb_Z_bind 1 = .ok (.aload_n 1, 1) := by decide +kernel
theorem dc_Z_bind_2 : decode bb_Z_bind 2 = .ok (.iload_n 2, 1) := by decide +kernel
theorem dc_Z_bind_3 : decode bb_Z_bind 3 = .ok (.invokevirtual 26, 3) := by decide +kernel
theorem dc_Z_bind_6 : decode bb_Z_bind 6 = .ok (.putfield 13, 3) := by decide +kernel
theorem dc_Z_bind_9 : decode bb_Z_bind 9 = .ok (.aload_n 0, 1) := by decide +kernel
theorem dc_Z_bind_10 : decode bb_Z_bind 10 = .ok (.aload_n 1, 1) := by decide +kernel
theorem dc_Z_bind_11 : decode bb_Z_bind 11 = .ok (.iload_n 2, 1) := by decide +kernel
theorem dc_Z_bind_12 : decode bb_Z_bind 12 = .ok (.invokevirtual 32, 3) := by decide +kernel
theorem dc_Z_bind_15 : decode bb_Z_bind 15 = .ok (.putfield 17, 3) := by decide +kernel
theorem dc_Z_bind_18 : decode bb_Z_bind 18 = .ok (.aload_n 0, 1) := by decide +kernel
theorem dc_Z_bind_19 : decode bb_Z_bind 19 = .ok (.aload_n 0, 1) := by decide +kernel
theorem dc_Z_bind_20 : decode bb_Z_bind 20 = .ok (.getfield 17, 3) := by decide +kernel
theorem dc_Z_bind_23 : decode bb_Z_bind 23 = .ok (.iconst 2, 1) := by decide +kernel
theorem dc_Z_bind_24 : decode bb_Z_bind 24 = .ok (.if_icmp .lt 17, 3) := by decide +kernel
theorem dc_Z_bind_27 : decode bb_Z_bind 27 = .ok (.aload_n 0, 1) := by decide +kernel
theorem dc_Z_bind_28 : decode bb_Z_bind 28 = .ok (.getfield 7, 3) := by decide +kernel
theorem dc_Z_bind_31 : decode bb_Z_bind 31 = .ok (.aload_n 0, 1) := by decide +kernel
theorem dc_Z_bind_32 : decode bb_Z_bind 32 = .ok (.getfield 13, 3) := by decide +kernel
theorem dc_Z_bind_35 : decode bb_Z_bind 35 = .ok (.invokevirtual 35, 3) := by decide +kernel
theorem dc_Z_bind_38 : decode bb_Z_bind 38 = .ok (.goto 4, 3) := by decide +kernel
theorem dc_Z_bind_41 : decode bb_Z_bind 41 = .ok (.iconst 0, 1) := by decide +kernel
theorem dc_Z_bind_42 : decode bb_Z_bind 42 = .ok (.putfield 20, 3) := by decide +kernel
theorem dc_Z_bind_45 : decode bb_Z_bind 45 = .ok (.aload_n 0, 1) := by decide +kernel
theorem dc_Z_bind_46 : decode bb_Z_bind 46 = .ok (.aload_n 0, 1) := by decide +kernel
theorem dc_Z_bind_47 : decode bb_Z_bind 47 = .ok (.getfield 17, 3) := by decide +kernel
theorem dc_Z_bind_50 : decode bb_Z_bind 50 = .ok (.iconst 2, 1) := by decide +kernel
theorem dc_Z_bind_51 : decode bb_Z_bind 51 = .ok (.if_icmp .lt 19, 3) := by decide +kernel
theorem dc_Z_bind_54 : decode bb_Z_bind 54 = .ok (.aload_n 0, 1) := by decide +kernel
theorem dc_Z_bind_55 : decode bb_Z_bind 55 = .ok (.getfield 7, 3) := by decide +kernel
theorem dc_Z_bind_58 : decode bb_Z_bind 58 = .ok (.aload_n 0, 1) := by decide +kernel
theorem dc_Z_bind_59 : decode bb_Z_bind 59 = .ok (.getfield 13, 3) := by decide +kernel
theorem dc_Z_bind_62 : decode bb_Z_bind 62 = .ok (.iconst 1, 1) := by decide +kernel
theorem dc_Z_bind_63 : decode bb_Z_bind 63 = .ok (.iadd, 1) := by decide +kernel
theorem dc_Z_bind_64 : decode bb_Z_bind 64 = .ok (.invokevirtual 35, 3) := by decide +kernel
theorem dc_Z_bind_67 : decode bb_Z_bind 67 = .ok (.goto 4, 3) := by decide +kernel
theorem dc_Z_bind_70 : decode bb_Z_bind 70 = .ok (.iconst 0, 1) := by decide +kernel
theorem dc_Z_bind_71 : decode bb_Z_bind 71 = .ok (.putfield 23, 3) := by decide +kernel
theorem dc_Z_bind_74 : decode bb_Z_bind 74 = .ok (.return_, 1) := by decide +kernel
theorem dc_M_tableFault_0 : decode bb_M_tableFault 0 = .ok (.iconst 0, 1) := by decide +kernel
theorem dc_M_tableFault_1 : decode bb_M_tableFault 1 = .ok (.istore_n 1, 1) := by decide +kernel
theorem dc_M_tableFault_2 : decode bb_M_tableFault 2 = .ok (.iload_n 1, 1) := by decide +kernel
theorem dc_M_tableFault_3 : decode bb_M_tableFault 3 = .ok (.aload_n 0, 1) := by decide +kernel
theorem dc_M_tableFault_4 : decode bb_M_tableFault 4 = .ok (.getfield 41, 3) := by decide +kernel
theorem dc_M_tableFault_7 : decode bb_M_tableFault 7 = .ok (.if_icmp .ge 23, 3) := by decide +kernel
theorem dc_M_tableFault_10 : decode bb_M_tableFault 10 = .ok (.aload_n 0, 1) := by decide +kernel
theorem dc_M_tableFault_11 : decode bb_M_tableFault 11 = .ok (.getfield 27, 3) := by decide +kernel
theorem dc_M_tableFault_14 : decode bb_M_tableFault 14 = .ok (.iload_n 1, 1) := by decide +kernel
theorem dc_M_tableFault_15 : decode bb_M_tableFault 15 = .ok (.aaload, 1) := by decide +kernel
theorem dc_M_tableFault_16 : decode bb_M_tableFault 16 = .ok (.invokevirtual 122, 3) := by decide +kernel
theorem dc_M_tableFault_19 : decode bb_M_tableFault 19 = .ok (.ifCond .ne 5, 3) := by decide +kernel
theorem dc_M_tableFault_22 : decode bb_M_tableFault 22 = .ok (.iconst 4, 1) := by decide +kernel
theorem dc_M_tableFault_23 : decode bb_M_tableFault 23 = .ok (.ireturn, 1) := by decide +kernel
theorem dc_M_tableFault_24 : decode bb_M_tableFault 24 = .ok (.iinc 1 1, 3) := by decide +kernel
theorem dc_M_tableFault_27 : decode bb_M_tableFault 27 = .ok (.goto (-25), 3) := by decide +kernel
theorem dc_M_tableFault_30 : decode bb_M_tableFault 30 = .ok (.iconst 0, 1) := by decide +kernel
theorem dc_M_tableFault_31 : decode bb_M_tableFault 31 = .ok (.istore_n 1, 1) := by decide +kernel
theorem dc_M_tableFault_32 : decode bb_M_tableFault 32 = .ok (.iload_n 1, 1) := by decide +kernel
theorem dc_M_tableFault_33 : decode bb_M_tableFault 33 = .ok (.aload_n 0, 1) := by decide +kernel
theorem dc_M_tableFault_34 : decode bb_M_tableFault 34 = .ok (.getfield 41, 3) := by decide +kernel
theorem dc_M_tableFault_37 : decode bb_M_tableFault 37 = .ok (.if_icmp .ge 23, 3) := by decide +kernel
theorem dc_M_tableFault_40 : decode bb_M_tableFault 40 = .ok (.aload_n 0, 1) := by decide +kernel
theorem dc_M_tableFault_41 : decode bb_M_tableFault 41 = .ok (.getfield 27, 3) := by decide +kernel
theorem dc_M_tableFault_44 : decode bb_M_tableFault 44 = .ok (.iload_n 1, 1) := by decide +kernel
theorem dc_M_tableFault_45 : decode bb_M_tableFault 45 = .ok (.aaload, 1) := by decide +kernel
theorem dc_M_tableFault_46 : decode bb_M_tableFault 46 = .ok (.invokevirtual 125, 3) := by decide +kernel
theorem dc_M_tableFault_49 : decode bb_M_tableFault 49 = .ok (.ifCond .ne 5, 3) := by decide +kernel
theorem dc_M_tableFault_52 : decode bb_M_tableFault 52 = .ok (.iconst 5, 1) := by decide +kernel
theorem dc_M_tableFault_53 : decode bb_M_tableFault 53 = .ok (.ireturn, 1) := by decide +kernel
theorem dc_M_tableFault_54 : decode bb_M_tableFault 54 = .ok (.iinc 1 1, 3) := by decide +kernel
theorem dc_M_tableFault_57 : decode bb_M_tableFault 57 = .ok (.goto (-25), 3) := by decide +kernel
theorem dc_M_tableFault_60 : decode bb_M_tableFault 60 = .ok (.iconst 0, 1) := by decide +kernel
theorem dc_M_tableFault_61 : decode bb_M_tableFault 61 = .ok (.istore_n 1, 1) := by decide +kernel
theorem dc_M_tableFault_62 : decode bb_M_tableFault 62 = .ok (.iload_n 1, 1) := by decide +kernel
theorem dc_M_tableFault_63 : decode bb_M_tableFault 63 = .ok (.aload_n 0, 1) := by decide +kernel
theorem dc_M_tableFault_64 : decode bb_M_tableFault 64 = .ok (.getfield 41, 3) := by decide +kernel
theorem dc_M_tableFault_67 : decode bb_M_tableFault 67 = .ok (.if_icmp .ge 24, 3) := by decide +kernel
theorem dc_M_tableFault_70 : decode bb_M_tableFault 70 = .ok (.aload_n 0, 1) := by decide +kernel
theorem dc_M_tableFault_71 : decode bb_M_tableFault 71 = .ok (.getfield 27, 3) := by decide +kernel
theorem dc_M_tableFault_74 : decode bb_M_tableFault 74 = .ok (.iload_n 1, 1) := by decide +kernel
theorem dc_M_tableFault_75 : decode bb_M_tableFault 75 = .ok (.aaload, 1) := by decide +kernel
theorem dc_M_tableFault_76 : decode bb_M_tableFault 76 = .ok (.invokevirtual 128, 3) := by decide +kernel
theorem dc_M_tableFault_79 : decode bb_M_tableFault 79 = .ok (.ifCond .ne 6, 3) := by decide +kernel
theorem dc_M_tableFault_82 : decode bb_M_tableFault 82 = .ok (.bipush 6, 2) := by decide +kernel
theorem dc_M_tableFault_84 : decode bb_M_tableFault 84 = .ok (.ireturn, 1) := by decide +kernel
theorem dc_M_tableFault_85 : decode bb_M_tableFault 85 = .ok (.iinc 1 1, 3) := by decide +kernel
theorem dc_M_tableFault_88 : decode bb_M_tableFault 88 = .ok (.goto (-26), 3) := by decide +kernel
theorem dc_M_tableFault_91 : decode bb_M_tableFault 91 = .ok (.iconst 0, 1) := by decide +kernel
theorem dc_M_tableFault_92 : decode bb_M_tableFault 92 = .ok (.ireturn, 1) := by decide +kernel
theorem dc_K_rowsHold_0 : decode bb_K_rowsHold 0 = .ok (.aload_n 0, 1) := by decide +kernel
theorem dc_K_rowsHold_1 : decode bb_K_rowsHold 1 = .ok (.getfield 42, 3) := by decide +kernel
theorem dc_K_rowsHold_4 : decode bb_K_rowsHold 4 = .ok (.invokevirtual 68, 3) := by decide +kernel
theorem dc_K_rowsHold_7 : decode bb_K_rowsHold 7 = .ok (.ifCond .eq 139, 3) := by decide +kernel
theorem dc_K_rowsHold_10 : decode bb_K_rowsHold 10 = .ok (.aload_n 0, 1) := by decide +kernel
theorem dc_K_rowsHold_11 : decode bb_K_rowsHold 11 = .ok (.getfield 20, 3) := by decide +kernel
theorem dc_K_rowsHold_14 : decode bb_K_rowsHold 14 = .ok (.invokevirtual 72, 3) := by decide +kernel
theorem dc_K_rowsHold_17 : decode bb_K_rowsHold 17 = .ok (.ifCond .eq 129, 3) := by decide +kernel
theorem dc_K_rowsHold_20 : decode bb_K_rowsHold 20 = .ok (.aload_n 0, 1) := by decide +kernel
theorem dc_K_rowsHold_21 : decode bb_K_rowsHold 21 = .ok (.getfield 24, 3) := by decide +kernel
theorem dc_K_rowsHold_24 : decode bb_K_rowsHold 24 = .ok (.invokevirtual 72, 3) := by decide +kernel
theorem dc_K_rowsHold_27 : decode bb_K_rowsHold 27 = .ok (.ifCond .eq 119, 3) := by decide +kernel
theorem dc_K_rowsHold_30 : decode bb_K_rowsHold 30 = .ok (.aload_n 0, 1) := by decide +kernel
theorem dc_K_rowsHold_31 : decode bb_K_rowsHold 31 = .ok (.getfield 27, 3) := by decide +kernel
theorem dc_K_rowsHold_34 : decode bb_K_rowsHold 34 = .ok (.invokevirtual 72, 3) := by decide +kernel
theorem dc_K_rowsHold_37 : decode bb_K_rowsHold 37 = .ok (.ifCond .eq 109, 3) := by decide +kernel
theorem dc_K_rowsHold_40 : decode bb_K_rowsHold 40 = .ok (.aload_n 0, 1) := by decide +kernel
theorem dc_K_rowsHold_41 : decode bb_K_rowsHold 41 = .ok (.getfield 30, 3) := by decide +kernel
theorem dc_K_rowsHold_44 : decode bb_K_rowsHold 44 = .ok (.invokevirtual 72, 3) := by decide +kernel
theorem dc_K_rowsHold_47 : decode bb_K_rowsHold 47 = .ok (.ifCond .eq 99, 3) := by decide +kernel
theorem dc_K_rowsHold_50 : decode bb_K_rowsHold 50 = .ok (.aload_n 0, 1) := by decide +kernel
theorem dc_K_rowsHold_51 : decode bb_K_rowsHold 51 = .ok (.getfield 33, 3) := by decide +kernel
theorem dc_K_rowsHold_54 : decode bb_K_rowsHold 54 = .ok (.invokevirtual 72, 3) := by decide +kernel
theorem dc_K_rowsHold_57 : decode bb_K_rowsHold 57 = .ok (.ifCond .eq 89, 3) := by decide +kernel
theorem dc_K_rowsHold_60 : decode bb_K_rowsHold 60 = .ok (.aload_n 0, 1) := by decide +kernel
theorem dc_K_rowsHold_61 : decode bb_K_rowsHold 61 = .ok (.getfield 36, 3) := by decide +kernel
theorem dc_K_rowsHold_64 : decode bb_K_rowsHold 64 = .ok (.invokevirtual 72, 3) := by decide +kernel
theorem dc_K_rowsHold_67 : decode bb_K_rowsHold 67 = .ok (.ifCond .eq 79, 3) := by decide +kernel
theorem dc_K_rowsHold_70 : decode bb_K_rowsHold 70 = .ok (.aload_n 0, 1) := by decide +kernel
theorem dc_K_rowsHold_71 : decode bb_K_rowsHold 71 = .ok (.getfield 27, 3) := by decide +kernel
theorem dc_K_rowsHold_74 : decode bb_K_rowsHold 74 = .ok (.invokevirtual 73, 3) := by decide +kernel
theorem dc_K_rowsHold_77 : decode bb_K_rowsHold 77 = .ok (.ifCond .eq 16, 3) := by decide +kernel
theorem dc_K_rowsHold_80 : decode bb_K_rowsHold 80 = .ok (.aload_n 0, 1) := by decide +kernel
theorem dc_K_rowsHold_81 : decode bb_K_rowsHold 81 = .ok (.getfield 27, 3) := by decide +kernel
theorem dc_K_rowsHold_84 : decode bb_K_rowsHold 84 = .ok (.iconst 0, 1) := by decide +kernel
theorem dc_K_rowsHold_85 : decode bb_K_rowsHold 85 = .ok (.iconst 0, 1) := by decide +kernel
theorem dc_K_rowsHold_86 : decode bb_K_rowsHold 86 = .ok (.invokevirtual 77, 3) := by decide +kernel
theorem dc_K_rowsHold_89 : decode bb_K_rowsHold 89 = .ok (.iconst 1, 1) := by decide +kernel
theorem dc_K_rowsHold_90 : decode bb_K_rowsHold 90 = .ok (.if_icmp .ne 56, 3) := by decide +kernel
theorem dc_K_rowsHold_93 : decode bb_K_rowsHold 93 = .ok (.aload_n 0, 1) := by decide +kernel
theorem dc_K_rowsHold_94 : decode bb_K_rowsHold 94 = .ok (.getfield 27, 3) := by decide +kernel
theorem dc_K_rowsHold_97 : decode bb_K_rowsHold 97 = .ok (.invokevirtual 80, 3) := by decide +kernel
theorem dc_K_rowsHold_100 : decode bb_K_rowsHold 100 = .ok (.ifCond .eq 46, 3) := by decide +kernel
theorem dc_K_rowsHold_103 : decode bb_K_rowsHold 103 = .ok (.aload_n 0, 1) := by decide +kernel
theorem dc_K_rowsHold_104 : decode bb_K_rowsHold 104 = .ok (.invokevirtual 83, 3) := by decide +kernel
theorem dc_K_rowsHold_107 : decode bb_K_rowsHold 107 = .ok (.ifCond .eq 39, 3) := by decide +kernel
theorem dc_K_rowsHold_110 : decode bb_K_rowsHold 110 = .ok (.aload_n 0, 1) := by decide +kernel
theorem dc_K_rowsHold_111 : decode bb_K_rowsHold 111 = .ok (.getfield 33, 3) := by decide +kernel
theorem dc_K_rowsHold_114 : decode bb_K_rowsHold 114 = .ok (.invokevirtual 73, 3) := by decide +kernel
theorem dc_K_rowsHold_117 : decode bb_K_rowsHold 117 = .ok (.ifCond .eq 15, 3) := by decide +kernel
theorem dc_K_rowsHold_120 : decode bb_K_rowsHold 120 = .ok (.aload_n 0, 1) := by decide +kernel
theorem dc_K_rowsHold_121 : decode bb_K_rowsHold 121 = .ok (.getfield 33, 3) := by decide +kernel
theorem dc_K_rowsHold_124 : decode bb_K_rowsHold 124 = .ok (.iconst 0, 1) := by decide +kernel
theorem dc_K_rowsHold_125 : decode bb_K_rowsHold 125 = .ok (.iconst 0, 1) := by decide +kernel
theorem dc_K_rowsHold_126 : decode bb_K_rowsHold 126 = .ok (.invokevirtual 77, 3) := by decide +kernel
theorem dc_K_rowsHold_129 : decode bb_K_rowsHold 129 = .ok (.ifCond .eq 17, 3) := by decide +kernel
theorem dc_K_rowsHold_132 : decode bb_K_rowsHold 132 = .ok (.aload_n 0, 1) := by decide +kernel
theorem dc_K_rowsHold_133 : decode bb_K_rowsHold 133 = .ok (.getfield 33, 3) := by decide +kernel
theorem dc_K_rowsHold_136 : decode bb_K_rowsHold 136 = .ok (.invokevirtual 80, 3) := by decide +kernel
theorem dc_K_rowsHold_139 : decode bb_K_rowsHold 139 = .ok (.ifCond .eq 7, 3) := by decide +kernel
theorem dc_K_rowsHold_142 : decode bb_K_rowsHold 142 = .ok (.iconst 1, 1) := by decide +kernel
theorem dc_K_rowsHold_143 : decode bb_K_rowsHold 143 = .ok (.goto 4, 3) := by decide +kernel
theorem dc_K_rowsHold_146 : decode bb_K_rowsHold 146 = .ok (.iconst 0, 1) := by decide +kernel
theorem dc_K_rowsHold_147 : decode bb_K_rowsHold 147 = .ok (.ireturn, 1) := by decide +kernel
theorem dc_Z_lengthHolds_0 : decode bb_Z_lengthHolds 0 = .ok (.aload_n 0, 1) := by decide +kernel
theorem dc_Z_lengthHolds_1 : decode bb_Z_lengthHolds 1 = .ok (.getfield 17, 3) := by decide +kernel
theorem dc_Z_lengthHolds_4 : decode bb_Z_lengthHolds 4 = .ok (.iconst 2, 1) := by decide +kernel
theorem dc_Z_lengthHolds_5 : decode bb_Z_lengthHolds 5 = .ok (.if_icmp .lt 31, 3) := by decide +kernel
theorem dc_Z_lengthHolds_8 : decode bb_Z_lengthHolds 8 = .ok (.aload_n 0, 1) := by decide +kernel
theorem dc_Z_lengthHolds_9 : decode bb_Z_lengthHolds 9 = .ok (.getfield 17, 3) := by decide +kernel
theorem dc_Z_lengthHolds_12 : decode bb_Z_lengthHolds 12 = .ok (.iconst 2, 1) := by decide +kernel
theorem dc_Z_lengthHolds_13 : decode bb_Z_lengthHolds 13 = .ok (.aload_n 0, 1) := by decide +kernel
theorem dc_Z_lengthHolds_14 : decode bb_Z_lengthHolds 14 = .ok (.getfield 20, 3) := by decide +kernel
theorem dc_Z_lengthHolds_17 : decode bb_Z_lengthHolds 17 = .ok (.ifCond .ne 10, 3) := by decide +kernel
theorem dc_Z_lengthHolds_20 : decode bb_Z_lengthHolds 20 = .ok (.aload_n 0, 1) := by decide +kernel
theorem dc_Z_lengthHolds_21 : decode bb_Z_lengthHolds 21 = .ok (.getfield 23, 3) := by decide +kernel
theorem dc_Z_lengthHolds_24 : decode bb_Z_lengthHolds 24 = .ok (.goto 4, 3) := by decide +kernel
theorem dc_Z_lengthHolds_27 : decode bb_Z_lengthHolds 27 = .ok (.iconst 0, 1) := by decide +kernel
theorem dc_Z_lengthHolds_28 : decode bb_Z_lengthHolds 28 = .ok (.iadd, 1) := by decide +kernel
theorem dc_Z_lengthHolds_29 : decode bb_Z_lengthHolds 29 = .ok (.if_icmp .ne 7, 3) := by decide +kernel
theorem dc_Z_lengthHolds_32 : decode bb_Z_lengthHolds 32 = .ok (.iconst 1, 1) := by decide +kernel
theorem dc_Z_lengthHolds_33 : decode bb_Z_lengthHolds 33 = .ok (.goto 4, 3) := by decide +kernel
theorem dc_Z_lengthHolds_36 : decode bb_Z_lengthHolds 36 = .ok (.iconst 0, 1) := by decide +kernel
theorem dc_Z_lengthHolds_37 : decode bb_Z_lengthHolds 37 = .ok (.ireturn, 1) := by decide +kernel
theorem dc_T_lengthHolds_0 : decode bb_T_lengthHolds 0 = .ok (.aload_n 0, 1) := by decide +kernel
theorem dc_T_lengthHolds_1 : decode bb_T_lengthHolds 1 = .ok (.getfield 13, 3) := by decide +kernel
theorem dc_T_lengthHolds_4 : decode bb_T_lengthHolds 4 = .ok (.ifCond .eq 29, 3) := by decide +kernel
theorem dc_T_lengthHolds_7 : decode bb_T_lengthHolds 7 = .ok (.aload_n 0, 1) := by decide +kernel
theorem dc_T_lengthHolds_8 : decode bb_T_lengthHolds 8 = .ok (.getfield 21, 3) := by decide +kernel
theorem dc_T_lengthHolds_11 : decode bb_T_lengthHolds 11 = .ok (.iconst 1, 1) := by decide +kernel
theorem dc_T_lengthHolds_12 : decode bb_T_lengthHolds 12 = .ok (.if_icmp .lt 25, 3) := by decide +kernel
theorem dc_T_lengthHolds_15 : decode bb_T_lengthHolds 15 = .ok (.aload_n 0, 1) := by decide +kernel
theorem dc_T_lengthHolds_16 : decode bb_T_lengthHolds 16 = .ok (.getfield 21, 3) := by decide +kernel
theorem dc_T_lengthHolds_19 : decode bb_T_lengthHolds 19 = .ok (.iconst 1, 1) := by decide +kernel
theorem dc_T_lengthHolds_20 : decode bb_T_lengthHolds 20 = .ok (.aload_n 0, 1) := by decide +kernel
theorem dc_T_lengthHolds_21 : decode bb_T_lengthHolds 21 = .ok (.getfield 27, 3) := by decide +kernel
theorem dc_T_lengthHolds_24 : decode bb_T_lengthHolds 24 = .ok (.aload_n 0, 1) := by decide +kernel
theorem dc_T_lengthHolds_25 : decode bb_T_lengthHolds 25 = .ok (.getfield 24, 3) := by decide +kernel
theorem dc_T_lengthHolds_28 : decode bb_T_lengthHolds 28 = .ok (.imul, 1) := by decide +kernel
theorem dc_T_lengthHolds_29 : decode bb_T_lengthHolds 29 = .ok (.iadd, 1) := by decide +kernel
theorem dc_T_lengthHolds_30 : decode bb_T_lengthHolds 30 = .ok (.if_icmp .ne 7, 3) := by decide +kernel
theorem dc_T_lengthHolds_33 : decode bb_T_lengthHolds 33 = .ok (.iconst 1, 1) := by decide +kernel
theorem dc_T_lengthHolds_34 : decode bb_T_lengthHolds 34 = .ok (.goto 4, 3) := by decide +kernel
theorem dc_T_lengthHolds_37 : decode bb_T_lengthHolds 37 = .ok (.iconst 0, 1) := by decide +kernel
theorem dc_T_lengthHolds_38 : decode bb_T_lengthHolds 38 = .ok (.ireturn, 1) := by decide +kernel
theorem dc_T_rows_0 : decode bb_T_rows 0 = .ok (.aload_n 0, 1) := by decide +kernel
theorem dc_T_rows_1 : decode bb_T_rows 1 = .ok (.getfield 27, 3) := by decide +kernel
theorem dc_T_rows_4 : decode bb_T_rows 4 = .ok (.ireturn, 1) := by decide +kernel
theorem dc_T_value_0 : decode bb_T_value 0 = .ok (.aload_n 0, 1) := by decide +kernel
theorem dc_T_value_1 : decode bb_T_value 1 = .ok (.getfield 7, 3) := by decide +kernel
theorem dc_T_value_4 : decode bb_T_value 4 = .ok (.aload_n 0, 1) := by decide +kernel
theorem dc_T_value_5 : decode bb_T_value 5 = .ok (.getfield 17, 3) := by decide +kernel
theorem dc_T_value_8 : decode bb_T_value 8 = .ok (.iconst 1, 1) := by decide +kernel
theorem dc_T_value_9 : decode bb_T_value 9 = .ok (.iadd, 1) := by decide +kernel
theorem dc_T_value_10 : decode bb_T_value 10 = .ok (.iload_n 1, 1) := by decide +kernel
theorem dc_T_value_11 : decode bb_T_value 11 = .ok (.aload_n 0, 1) := by decide +kernel
theorem dc_T_value_12 : decode bb_T_value 12 = .ok (.getfield 24, 3) := by decide +kernel
theorem dc_T_value_15 : decode bb_T_value 15 = .ok (.imul, 1) := by decide +kernel
theorem dc_T_value_16 : decode bb_T_value 16 = .ok (.iadd, 1) := by decide +kernel
theorem dc_T_value_17 : decode bb_T_value 17 = .ok (.iload_n 2, 1) := by decide +kernel
theorem dc_T_value_18 : decode bb_T_value 18 = .ok (.iadd, 1) := by decide +kernel
theorem dc_T_value_19 : decode bb_T_value 19 = .ok (.invokevirtual 39, 3) := by decide +kernel
theorem dc_T_value_22 : decode bb_T_value 22 = .ok (.ireturn, 1) := by decide +kernel
theorem dc_T_grows_0 : decode bb_T_grows 0 = .ok (.iconst 1, 1) := by decide +kernel
theorem dc_T_grows_1 : decode bb_T_grows 1 = .ok (.istore_n 1, 1) := by decide +kernel
theorem dc_T_grows_2 : decode bb_T_grows 2 = .ok (.iload_n 1, 1) := by decide +kernel
theorem dc_T_grows_3 : decode bb_T_grows 3 = .ok (.aload_n 0, 1) := by decide +kernel
theorem dc_T_grows_4 : decode bb_T_grows 4 = .ok (.getfield 27, 3) := by decide +kernel
theorem dc_T_grows_7 : decode bb_T_grows 7 = .ok (.if_icmp .ge 28, 3) := by decide +kernel
theorem dc_T_grows_10 : decode bb_T_grows 10 = .ok (.aload_n 0, 1) := by decide +kernel
theorem dc_T_grows_11 : decode bb_T_grows 11 = .ok (.iload_n 1, 1) := by decide +kernel
theorem dc_T_grows_12 : decode bb_T_grows 12 = .ok (.iconst 0, 1) := by decide +kernel
theorem dc_T_grows_13 : decode bb_T_grows 13 = .ok (.invokevirtual 44, 3) := by decide +kernel
theorem dc_T_grows_16 : decode bb_T_grows 16 = .ok (.aload_n 0, 1) := by decide +kernel
theorem dc_T_grows_17 : decode bb_T_grows 17 = .ok (.iload_n 1, 1) := by decide +kernel
theorem dc_T_grows_18 : decode bb_T_grows 18 = .ok (.iconst 1, 1) := by decide +kernel
theorem dc_T_grows_19 : decode bb_T_grows 19 = .ok (.isub, 1) := by decide +kernel
theorem dc_T_grows_20 : decode bb_T_grows 20 = .ok (.iconst 0, 1) := by decide +kernel
theorem dc_T_grows_21 : decode bb_T_grows 21 = .ok (.invokevirtual 44, 3) := by decide +kernel
theorem dc_T_grows_24 : decode bb_T_grows 24 = .ok (.if_icmp .gt 5, 3) := by decide +kernel
theorem dc_T_grows_27 : decode bb_T_grows 27 = .ok (.iconst 0, 1) := by decide +kernel
theorem dc_T_grows_28 : decode bb_T_grows 28 = .ok (.ireturn, 1) := by decide +kernel
theorem dc_T_grows_29 : decode bb_T_grows 29 = .ok (.iinc 1 1, 3) := by decide +kernel
theorem dc_T_grows_32 : decode bb_T_grows 32 = .ok (.goto (-30), 3) := by decide +kernel
theorem dc_T_grows_35 : decode bb_T_grows 35 = .ok (.iconst 1, 1) := by decide +kernel
theorem dc_T_grows_36 : decode bb_T_grows 36 = .ok (.ireturn, 1) := by decide +kernel
