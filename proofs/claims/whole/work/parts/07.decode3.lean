theorem dc_B_addPair_0 : decode bb_B_addPair 0 = .ok (.aload_n 0, 1) := by decide +kernel
theorem dc_B_addPair_1 : decode bb_B_addPair 1 = .ok (.iload_n 1, 1) := by decide +kernel
theorem dc_B_addPair_2 : decode bb_B_addPair 2 = .ok (.bipush 8, 2) := by decide +kernel
theorem dc_B_addPair_4 : decode bb_B_addPair 4 = .ok (.ishr, 1) := by decide +kernel
theorem dc_B_addPair_5 : decode bb_B_addPair 5 = .ok (.invokevirtual 23, 3) := by decide +kernel
theorem dc_B_addPair_8 : decode bb_B_addPair 8 = .ok (.aload_n 0, 1) := by decide +kernel
theorem dc_B_addPair_9 : decode bb_B_addPair 9 = .ok (.iload_n 1, 1) := by decide +kernel
theorem dc_B_addPair_10 : decode bb_B_addPair 10 = .ok (.invokevirtual 23, 3) := by decide +kernel
theorem dc_B_addPair_13 : decode bb_B_addPair 13 = .ok (.return_, 1) := by decide +kernel
theorem dc_V_writePlaces_0 : decode bb_V_writePlaces 0 = .ok (.aload_n 0, 1) := by decide +kernel
theorem dc_V_writePlaces_1 : decode bb_V_writePlaces 1 = .ok (.getfield 25, 3) := by decide +kernel
theorem dc_V_writePlaces_4 : decode bb_V_writePlaces 4 = .ok (.iload_n 1, 1) := by decide +kernel
theorem dc_V_writePlaces_5 : decode bb_V_writePlaces 5 = .ok (.baload, 1) := by decide +kernel
theorem dc_V_writePlaces_6 : decode bb_V_writePlaces 6 = .ok (.ifCond .ne 18, 3) := by decide +kernel
theorem dc_V_writePlaces_9 : decode bb_V_writePlaces 9 = .ok (.aload_n 0, 1) := by decide +kernel
theorem dc_V_writePlaces_10 : decode bb_V_writePlaces 10 = .ok (.getfield 15, 3) := by decide +kernel
theorem dc_V_writePlaces_13 : decode bb_V_writePlaces 13 = .ok (.iload_n 1, 1) := by decide +kernel
theorem dc_V_writePlaces_14 : decode bb_V_writePlaces 14 = .ok (.bipush 6, 2) := by decide +kernel
theorem dc_V_writePlaces_16 : decode bb_V_writePlaces 16 = .ok (.invokevirtual 52, 3) := by decide +kernel
theorem dc_V_writePlaces_19 : decode bb_V_writePlaces 19 = .ok (.bipush 79, 2) := by decide +kernel
theorem dc_V_writePlaces_21 : decode bb_V_writePlaces 21 = .ok (.if_icmp .ne 7, 3) := by decide +kernel
theorem dc_V_writePlaces_24 : decode bb_V_writePlaces 24 = .ok (.iconst 1, 1) := by decide +kernel
theorem dc_V_writePlaces_25 : decode bb_V_writePlaces 25 = .ok (.goto 4, 3) := by decide +kernel
theorem dc_V_writePlaces_28 : decode bb_V_writePlaces 28 = .ok (.iconst 0, 1) := by decide +kernel
theorem dc_V_writePlaces_29 : decode bb_V_writePlaces 29 = .ok (.istore_n 2, 1) := by decide +kernel
theorem dc_V_writePlaces_30 : decode bb_V_writePlaces 30 = .ok (.aload_n 0, 1) := by decide +kernel
theorem dc_V_writePlaces_31 : decode bb_V_writePlaces 31 = .ok (.getfield 22, 3) := by decide +kernel
theorem dc_V_writePlaces_34 : decode bb_V_writePlaces 34 = .ok (.aload_n 0, 1) := by decide +kernel
theorem dc_V_writePlaces_35 : decode bb_V_writePlaces 35 = .ok (.iload_n 1, 1) := by decide +kernel
theorem dc_V_writePlaces_36 : decode bb_V_writePlaces 36 = .ok (.invokevirtual 102, 3) := by decide +kernel
theorem dc_V_writePlaces_39 : decode bb_V_writePlaces 39 = .ok (.invokevirtual 132, 3) := by decide +kernel
theorem dc_V_writePlaces_42 : decode bb_V_writePlaces 42 = .ok (.iconst 0, 1) := by decide +kernel
theorem dc_V_writePlaces_43 : decode bb_V_writePlaces 43 = .ok (.istore_n 3, 1) := by decide +kernel
theorem dc_V_writePlaces_44 : decode bb_V_writePlaces 44 = .ok (.iload_n 3, 1) := by decide +kernel
theorem dc_V_writePlaces_45 : decode bb_V_writePlaces 45 = .ok (.aload_n 0, 1) := by decide +kernel
theorem dc_V_writePlaces_46 : decode bb_V_writePlaces 46 = .ok (.iload_n 1, 1) := by decide +kernel
theorem dc_V_writePlaces_47 : decode bb_V_writePlaces 47 = .ok (.invokevirtual 102, 3) := by decide +kernel
theorem dc_V_writePlaces_50 : decode bb_V_writePlaces 50 = .ok (.if_icmp .ge 46, 3) := by decide +kernel
theorem dc_V_writePlaces_53 : decode bb_V_writePlaces 53 = .ok (.aload_n 0, 1) := by decide +kernel
theorem dc_V_writePlaces_54 : decode bb_V_writePlaces 54 = .ok (.aload_n 0, 1) := by decide +kernel
theorem dc_V_writePlaces_55 : decode bb_V_writePlaces 55 = .ok (.iload_n 1, 1) := by decide +kernel
theorem dc_V_writePlaces_56 : decode bb_V_writePlaces 56 = .ok (.iload_n 3, 1) := by decide +kernel
theorem dc_V_writePlaces_57 : decode bb_V_writePlaces 57 = .ok (.invokevirtual 114, 3) := by decide +kernel
theorem dc_V_writePlaces_60 : decode bb_V_writePlaces 60 = .ok (.invokevirtual 117, 3) := by decide +kernel
theorem dc_V_writePlaces_63 : decode bb_V_writePlaces 63 = .ok (.istore 4, 2) := by decide +kernel
theorem dc_V_writePlaces_65 : decode bb_V_writePlaces 65 = .ok (.iload_n 2, 1) := by decide +kernel
theorem dc_V_writePlaces_66 : decode bb_V_writePlaces 66 = .ok (.ifCond .eq 15, 3) := by decide +kernel
theorem dc_V_writePlaces_69 : decode bb_V_writePlaces 69 = .ok (.aload_n 0, 1) := by decide +kernel
theorem dc_V_writePlaces_70 : decode bb_V_writePlaces 70 = .ok (.getfield 22, 3) := by decide +kernel
theorem dc_V_writePlaces_73 : decode bb_V_writePlaces 73 = .ok (.iload 4, 2) := by decide +kernel
theorem dc_V_writePlaces_75 : decode bb_V_writePlaces 75 = .ok (.invokevirtual 135, 3) := by decide +kernel
theorem dc_V_writePlaces_78 : decode bb_V_writePlaces 78 = .ok (.goto 12, 3) := by decide +kernel
theorem dc_V_writePlaces_81 : decode bb_V_writePlaces 81 = .ok (.aload_n 0, 1) := by decide +kernel
theorem dc_V_writePlaces_82 : decode bb_V_writePlaces 82 = .ok (.getfield 22, 3) := by decide +kernel
theorem dc_V_writePlaces_85 : decode bb_V_writePlaces 85 = .ok (.iload 4, 2) := by decide +kernel
theorem dc_V_writePlaces_87 : decode bb_V_writePlaces 87 = .ok (.invokevirtual 132, 3) := by decide +kernel
theorem dc_V_writePlaces_90 : decode bb_V_writePlaces 90 = .ok (.iinc 3 1, 3) := by decide +kernel
theorem dc_V_writePlaces_93 : decode bb_V_writePlaces 93 = .ok (.goto (-49), 3) := by decide +kernel
theorem dc_V_writePlaces_96 : decode bb_V_writePlaces 96 = .ok (.return_, 1) := by decide +kernel
theorem dc_B_become_0 : decode bb_B_become 0 = .ok (.aload_n 0, 1) := by decide +kernel
theorem dc_B_become_1 : decode bb_B_become 1 = .ok (.iconst 0, 1) := by decide +kernel
theorem dc_B_become_2 : decode bb_B_become 2 = .ok (.invokevirtual 31, 3) := by decide +kernel
theorem dc_B_become_5 : decode bb_B_become 5 = .ok (.aload_n 0, 1) := by decide +kernel
theorem dc_B_become_6 : decode bb_B_become 6 = .ok (.aload_n 1, 1) := by decide +kernel
theorem dc_B_become_7 : decode bb_B_become 7 = .ok (.iconst 0, 1) := by decide +kernel
theorem dc_B_become_8 : decode bb_B_become 8 = .ok (.aload_n 1, 1) := by decide +kernel
theorem dc_B_become_9 : decode bb_B_become 9 = .ok (.invokevirtual 34, 3) := by decide +kernel
theorem dc_B_become_12 : decode bb_B_become 12 = .ok (.invokevirtual 38, 3) := by decide +kernel
theorem dc_B_become_15 : decode bb_B_become 15 = .ok (.return_, 1) := by decide +kernel
theorem dc_R_init_0 : decode bb_R_init 0 = .ok (.aload_n 0, 1) := by decide +kernel
theorem dc_R_init_1 : decode bb_R_init 1 = .ok (.invokespecial 1, 3) := by decide +kernel
theorem dc_R_init_4 : decode bb_R_init 4 = .ok (.aload_n 0, 1) := by decide +kernel
theorem dc_R_init_5 : decode bb_R_init 5 = .ok (.sipush 1000, 3) := by decide +kernel
theorem dc_R_init_8 : decode bb_R_init 8 = .ok (.newarray .int, 2) := by decide +kernel
theorem dc_R_init_10 : decode bb_R_init 10 = .ok (.putfield 7, 3) := by decide +kernel
theorem dc_R_init_13 : decode bb_R_init 13 = .ok (.aload_n 0, 1) := by decide +kernel
theorem dc_R_init_14 : decode bb_R_init 14 = .ok (.bipush 20, 2) := by decide +kernel
theorem dc_R_init_16 : decode bb_R_init 16 = .ok (.newarray .int, 2) := by decide +kernel
theorem dc_R_init_18 : decode bb_R_init 18 = .ok (.putfield 13, 3) := by decide +kernel
theorem dc_R_init_21 : decode bb_R_init 21 = .ok (.aload_n 0, 1) := by decide +kernel
theorem dc_R_init_22 : decode bb_R_init 22 = .ok (.bipush 20, 2) := by decide +kernel
theorem dc_R_init_24 : decode bb_R_init 24 = .ok (.newarray .int, 2) := by decide +kernel
theorem dc_R_init_26 : decode bb_R_init 26 = .ok (.putfield 16, 3) := by decide +kernel
theorem dc_R_init_29 : decode bb_R_init 29 = .ok (.aload_n 0, 1) := by decide +kernel
theorem dc_R_init_30 : decode bb_R_init 30 = .ok (.bipush 20, 2) := by decide +kernel
theorem dc_R_init_32 : decode bb_R_init 32 = .ok (.newarray .int, 2) := by decide +kernel
theorem dc_R_init_34 : decode bb_R_init 34 = .ok (.putfield 19, 3) := by decide +kernel
theorem dc_R_init_37 : decode bb_R_init 37 = .ok (.aload_n 0, 1) := by decide +kernel
theorem dc_R_init_38 : decode bb_R_init 38 = .ok (.bipush 20, 2) := by decide +kernel
theorem dc_R_init_40 : decode bb_R_init 40 = .ok (.newarray .int, 2) := by decide +kernel
theorem dc_R_init_42 : decode bb_R_init 42 = .ok (.putfield 22, 3) := by decide +kernel
theorem dc_R_init_45 : decode bb_R_init 45 = .ok (.aload_n 0, 1) := by decide +kernel
theorem dc_R_init_46 : decode bb_R_init 46 = .ok (.bipush 20, 2) := by decide +kernel
theorem dc_R_init_48 : decode bb_R_init 48 = .ok (.newarray .int, 2) := by decide +kernel
theorem dc_R_init_50 : decode bb_R_init 50 = .ok (.putfield 25, 3) := by decide +kernel
theorem dc_R_init_53 : decode bb_R_init 53 = .ok (.aload_n 0, 1) := by decide +kernel
theorem dc_R_init_54 : decode bb_R_init 54 = .ok (.bipush 20, 2) := by decide +kernel
theorem dc_R_init_56 : decode bb_R_init 56 = .ok (.newarray .int, 2) := by decide +kernel
theorem dc_R_init_58 : decode bb_R_init 58 = .ok (.putfield 28, 3) := by decide +kernel
theorem dc_R_init_61 : decode bb_R_init 61 = .ok (.aload_n 0, 1) := by decide +kernel
theorem dc_R_init_62 : decode bb_R_init 62 = .ok (.iconst 3, 1) := by decide +kernel
theorem dc_R_init_63 : decode bb_R_init 63 = .ok (.newarray .int, 2) := by decide +kernel
theorem dc_R_init_65 : decode bb_R_init 65 = .ok (.putfield 31, 3) := by decide +kernel
theorem dc_R_init_68 : decode bb_R_init 68 = .ok (.aload_n 0, 1) := by decide +kernel
theorem dc_R_init_69 : decode bb_R_init 69 = .ok (.iconst 3, 1) := by decide +kernel
theorem dc_R_init_70 : decode bb_R_init 70 = .ok (.newarray .int, 2) := by decide +kernel
theorem dc_R_init_72 : decode bb_R_init 72 = .ok (.putfield 34, 3) := by decide +kernel
theorem dc_R_init_75 : decode bb_R_init 75 = .ok (.aload_n 0, 1) := by decide +kernel
theorem dc_R_init_76 : decode bb_R_init 76 = .ok (.iconst 2, 1) := by decide +kernel
theorem dc_R_init_77 : decode bb_R_init 77 = .ok (.newarray .int, 2) := by decide +kernel
theorem dc_R_init_79 : decode bb_R_init 79 = .ok (.putfield 37, 3) := by decide +kernel
theorem dc_R_init_82 : decode bb_R_init 82 = .ok (.aload_n 0, 1) := by decide +kernel
theorem dc_R_init_83 : decode bb_R_init 83 = .ok (.bipush 16, 2) := by decide +kernel
theorem dc_R_init_85 : decode bb_R_init 85 = .ok (.newarray .int, 2) := by decide +kernel
theorem dc_R_init_87 : decode bb_R_init 87 = .ok (.putfield 40, 3) := by decide +kernel
theorem dc_R_init_90 : decode bb_R_init 90 = .ok (.aload_n 0, 1) := by decide +kernel
theorem dc_R_init_91 : decode bb_R_init 91 = .ok (.sipush 512, 3) := by decide +kernel
theorem dc_R_init_94 : decode bb_R_init 94 = .ok (.newarray .int, 2) := by decide +kernel
theorem dc_R_init_96 : decode bb_R_init 96 = .ok (.putfield 43, 3) := by decide +kernel
theorem dc_R_init_99 : decode bb_R_init 99 = .ok (.aload_n 0, 1) := by decide +kernel
theorem dc_R_init_100 : decode bb_R_init 100 = .ok (.bipush 20, 2) := by decide +kernel
theorem dc_R_init_102 : decode bb_R_init 102 = .ok (.newarray .int, 2) := by decide +kernel
theorem dc_R_init_104 : decode bb_R_init 104 = .ok (.putfield 46, 3) := by decide +kernel
theorem dc_R_init_107 : decode bb_R_init 107 = .ok (.aload_n 0, 1) := by decide +kernel
theorem dc_R_init_108 : decode bb_R_init 108 = .ok (.bipush 20, 2) := by decide +kernel
theorem dc_R_init_110 : decode bb_R_init 110 = .ok (.newarray .int, 2) := by decide +kernel
theorem dc_R_init_112 : decode bb_R_init 112 = .ok (.putfield 49, 3) := by decide +kernel
theorem dc_R_init_115 : decode bb_R_init 115 = .ok (.aload_n 0, 1) := by decide +kernel
theorem dc_R_init_116 : decode bb_R_init 116 = .ok (.bipush 20, 2) := by decide +kernel
theorem dc_R_init_118 : decode bb_R_init 118 = .ok (.newarray .int, 2) := by decide +kernel
theorem dc_R_init_120 : decode bb_R_init 120 = .ok (.putfield 52, 3) := by decide +kernel
theorem dc_R_init_123 : decode bb_R_init 123 = .ok (.aload_n 0, 1) := by decide +kernel
theorem dc_R_init_124 : decode bb_R_init 124 = .ok (.sipush 1000, 3) := by decide +kernel
theorem dc_R_init_127 : decode bb_R_init 127 = .ok (.newarray .int, 2) := by decide +kernel
theorem dc_R_init_129 : decode bb_R_init 129 = .ok (.putfield 55, 3) := by decide +kernel
theorem dc_R_init_132 : decode bb_R_init 132 = .ok (.return_, 1) := by decide +kernel
theorem dc_R_append_0 : decode bb_R_append 0 = .ok (.iload_n 3, 1) := by decide +kernel
theorem dc_R_append_1 : decode bb_R_append 1 = .ok (.iconst 1, 1) := by decide +kernel
theorem dc_R_append_2 : decode bb_R_append 2 = .ok (.if_icmp .lt 9, 3) := by decide +kernel
theorem dc_R_append_5 : decode bb_R_append 5 = .ok (.iload_n 3, 1) := by decide +kernel
theorem dc_R_append_6 : decode bb_R_append 6 = .ok (.bipush 8, 2) := by decide +kernel
theorem dc_R_append_8 : decode bb_R_append 8 = .ok (.if_icmp .le 5, 3) := by decide +kernel
theorem dc_R_append_11 : decode bb_R_append 11 = .ok (.iconst (-1), 1) := by decide +kernel
theorem dc_R_append_12 : decode bb_R_append 12 = .ok (.ireturn, 1) := by decide +kernel
theorem dc_R_append_13 : decode bb_R_append 13 = .ok (.aload_n 0, 1) := by decide +kernel
theorem dc_R_append_14 : decode bb_R_append 14 = .ok (.getfield 58, 3) := by decide +kernel
theorem dc_R_append_17 : decode bb_R_append 17 = .ok (.iload_n 3, 1) := by decide +kernel
theorem dc_R_append_18 : decode bb_R_append 18 = .ok (.iadd, 1) := by decide +kernel
theorem dc_R_append_19 : decode bb_R_append 19 = .ok (.sipush 1000, 3) := by decide +kernel
theorem dc_R_append_22 : decode bb_R_append 22 = .ok (.if_icmp .le 6, 3) := by decide +kernel
theorem dc_R_append_25 : decode bb_R_append 25 = .ok (.bipush (-2), 2) := by decide +kernel
theorem dc_R_append_27 : decode bb_R_append 27 = .ok (.ireturn, 1) := by decide +kernel
theorem dc_R_append_28 : decode bb_R_append 28 = .ok (.iload_n 3, 1) := by decide +kernel
theorem dc_R_append_29 : decode bb_R_append 29 = .ok (.iconst 1, 1) := by decide +kernel
theorem dc_R_append_30 : decode bb_R_append 30 = .ok (.isub, 1) := by decide +kernel
theorem dc_R_append_31 : decode bb_R_append 31 = .ok (.istore 4, 2) := by decide +kernel
theorem dc_R_append_33 : decode bb_R_append 33 = .ok (.iload 4, 2) := by decide +kernel
theorem dc_R_append_35 : decode bb_R_append 35 = .ok (.ifCond .lt 40, 3) := by decide +kernel
theorem dc_R_append_38 : decode bb_R_append 38 = .ok (.aload_n 0, 1) := by decide +kernel
theorem dc_R_append_39 : decode bb_R_append 39 = .ok (.getfield 7, 3) := by decide +kernel
theorem dc_R_append_42 : decode bb_R_append 42 = .ok (.aload_n 0, 1) := by decide +kernel
theorem dc_R_append_43 : decode bb_R_append 43 = .ok (.getfield 58, 3) := by decide +kernel
theorem dc_R_append_46 : decode bb_R_append 46 = .ok (.lload_n 1, 1) := by decide +kernel
theorem dc_R_append_47 : decode bb_R_append 47 = .ok (.bipush 8, 2) := by decide +kernel
theorem dc_R_append_49 : decode bb_R_append 49 = .ok (.iload 4, 2) := by decide +kernel
theorem dc_R_append_51 : decode bb_R_append 51 = .ok (.imul, 1) := by decide +kernel
theorem dc_R_append_52 : decode bb_R_append 52 = .ok (.lshr, 1) := by decide +kernel
theorem dc_R_append_53 : decode bb_R_append 53 = .ok (.ldc2_w 62, 3) := by decide +kernel
theorem dc_R_append_56 : decode bb_R_append 56 = .ok (.land, 1) := by decide +kernel
theorem dc_R_append_57 : decode bb_R_append 57 = .ok (.l2i, 1) := by decide +kernel
theorem dc_R_append_58 : decode bb_R_append 58 = .ok (.iastore, 1) := by decide +kernel
theorem dc_R_append_59 : decode bb_R_append 59 = .ok (.aload_n 0, 1) := by decide +kernel
theorem dc_R_append_60 : decode bb_R_append 60 = .ok (.dup, 1) := by decide +kernel
theorem dc_R_append_61 : decode bb_R_append 61 = .ok (.getfield 58, 3) := by decide +kernel
theorem dc_R_append_64 : decode bb_R_append 64 = .ok (.iconst 1, 1) := by decide +kernel
theorem dc_R_append_65 : decode bb_R_append 65 = .ok (.iadd, 1) := by decide +kernel
theorem dc_R_append_66 : decode bb_R_append 66 = .ok (.putfield 58, 3) := by decide +kernel
theorem dc_R_append_69 : decode bb_R_append 69 = .ok (.iinc 4 (-1), 3) := by decide +kernel
theorem dc_R_append_72 : decode bb_R_append 72 = .ok (.goto (-39), 3) := by decide +kernel
theorem dc_R_append_75 : decode bb_R_append 75 = .ok (.aload_n 0, 1) := by decide +kernel
theorem dc_R_append_76 : decode bb_R_append 76 = .ok (.getfield 58, 3) := by decide +kernel
theorem dc_R_append_79 : decode bb_R_append 79 = .ok (.ireturn, 1) := by decide +kernel
theorem dc_R_poke_0 : decode bb_R_poke 0 = .ok (.iload_n 1, 1) := by decide +kernel
theorem dc_R_poke_1 : decode bb_R_poke 1 = .ok (.ifCond .lt 22, 3) := by decide +kernel
theorem dc_R_poke_4 : decode bb_R_poke 4 = .ok (.iload_n 1, 1) := by decide +kernel
theorem dc_R_poke_5 : decode bb_R_poke 5 = .ok (.aload_n 0, 1) := by decide +kernel
theorem dc_R_poke_6 : decode bb_R_poke 6 = .ok (.getfield 58, 3) := by decide +kernel
theorem dc_R_poke_9 : decode bb_R_poke 9 = .ok (.if_icmp .ge 14, 3) := by decide +kernel
theorem dc_R_poke_12 : decode bb_R_poke 12 = .ok (.iload_n 2, 1) := by decide +kernel
theorem dc_R_poke_13 : decode bb_R_poke 13 = .ok (.ifCond .lt 10, 3) := by decide +kernel
theorem dc_R_poke_16 : decode bb_R_poke 16 = .ok (.iload_n 2, 1) := by decide +kernel
theorem dc_R_poke_17 : decode bb_R_poke 17 = .ok (.sipush 255, 3) := by decide +kernel
theorem dc_R_poke_20 : decode bb_R_poke 20 = .ok (.if_icmp .le 7, 3) := by decide +kernel
theorem dc_R_poke_23 : decode bb_R_poke 23 = .ok (.sipush (-1000), 3) := by decide +kernel
theorem dc_R_poke_26 : decode bb_R_poke 26 = .ok (.ireturn, 1) := by decide +kernel
theorem dc_R_poke_27 : decode bb_R_poke 27 = .ok (.aload_n 0, 1) := by decide +kernel
theorem dc_R_poke_28 : decode bb_R_poke 28 = .ok (.getfield 7, 3) := by decide +kernel
theorem dc_R_poke_31 : decode bb_R_poke 31 = .ok (.iload_n 1, 1) := by decide +kernel
theorem dc_R_poke_32 : decode bb_R_poke 32 = .ok (.iaload, 1) := by decide +kernel
theorem dc_R_poke_33 : decode bb_R_poke 33 = .ok (.istore_n 3, 1) := by decide +kernel
theorem dc_R_poke_34 : decode bb_R_poke 34 = .ok (.aload_n 0, 1) := by decide +kernel
theorem dc_R_poke_35 : decode bb_R_poke 35 = .ok (.getfield 7, 3) := by decide +kernel
theorem dc_R_poke_38 : decode bb_R_poke 38 = .ok (.iload_n 1, 1) := by decide +kernel
theorem dc_R_poke_39 : decode bb_R_poke 39 = .ok (.iload_n 2, 1) := by decide +kernel
theorem dc_R_poke_40 : decode bb_R_poke 40 = .ok (.iastore, 1) := by decide +kernel
theorem dc_R_poke_41 : decode bb_R_poke 41 = .ok (.iload_n 3, 1) := by decide +kernel
theorem dc_R_poke_42 : decode bb_R_poke 42 = .ok (.ireturn, 1) := by decide +kernel
theorem dc_R_cut_0 : decode bb_R_cut 0 = .ok (.iload_n 1, 1) := by decide +kernel
theorem dc_R_cut_1 : decode bb_R_cut 1 = .ok (.ifCond .lt 11, 3) := by decide +kernel
theorem dc_R_cut_4 : decode bb_R_cut 4 = .ok (.iload_n 1, 1) := by decide +kernel
theorem dc_R_cut_5 : decode bb_R_cut 5 = .ok (.aload_n 0, 1) := by decide +kernel
theorem dc_R_cut_6 : decode bb_R_cut 6 = .ok (.getfield 58, 3) := by decide +kernel
theorem dc_R_cut_9 : decode bb_R_cut 9 = .ok (.if_icmp .le 5, 3) := by decide +kernel
theorem dc_R_cut_12 : decode bb_R_cut 12 = .ok (.iconst 0, 1) := by decide +kernel
theorem dc_R_cut_13 : decode bb_R_cut 13 = .ok (.ireturn, 1) := by decide +kernel
theorem dc_R_cut_14 : decode bb_R_cut 14 = .ok (.aload_n 0, 1) := by decide +kernel
theorem dc_R_cut_15 : decode bb_R_cut 15 = .ok (.iload_n 1, 1) := by decide +kernel
theorem dc_R_cut_16 : decode bb_R_cut 16 = .ok (.putfield 58, 3) := by decide +kernel
theorem dc_R_cut_19 : decode bb_R_cut 19 = .ok (.iconst 1, 1) := by decide +kernel
theorem dc_R_cut_20 : decode bb_R_cut 20 = .ok (.ireturn, 1) := by decide +kernel
theorem dc_R_length_0 : decode bb_R_length 0 = .ok (.aload_n 0, 1) := by decide +kernel
theorem dc_R_length_1 : decode bb_R_length 1 = .ok (.getfield 58, 3) := by decide +kernel
theorem dc_R_length_4 : decode bb_R_length 4 = .ok (.ireturn, 1) := by decide +kernel
theorem dc_R_peek_0 : decode bb_R_peek 0 = .ok (.iload_n 1, 1) := by decide +kernel
theorem dc_R_peek_1 : decode bb_R_peek 1 = .ok (.ifCond .lt 11, 3) := by decide +kernel
theorem dc_R_peek_4 : decode bb_R_peek 4 = .ok (.iload_n 1, 1) := by decide +kernel
theorem dc_R_peek_5 : decode bb_R_peek 5 = .ok (.aload_n 0, 1) := by decide +kernel
theorem dc_R_peek_6 : decode bb_R_peek 6 = .ok (.getfield 58, 3) := by decide +kernel
theorem dc_R_peek_9 : decode bb_R_peek 9 = .ok (.if_icmp .lt 9, 3) := by decide +kernel
theorem dc_R_peek_12 : decode bb_R_peek 12 = .ok (.sipush (-1000), 3) := by decide +kernel
theorem dc_R_peek_15 : decode bb_R_peek 15 = .ok (.goto 9, 3) := by decide +kernel
theorem dc_R_peek_18 : decode bb_R_peek 18 = .ok (.aload_n 0, 1) := by decide +kernel
theorem dc_R_peek_19 : decode bb_R_peek 19 = .ok (.getfield 7, 3) := by decide +kernel
theorem dc_R_peek_22 : decode bb_R_peek 22 = .ok (.iload_n 1, 1) := by decide +kernel
theorem dc_R_peek_23 : decode bb_R_peek 23 = .ok (.iaload, 1) := by decide +kernel
theorem dc_R_peek_24 : decode bb_R_peek 24 = .ok (.ireturn, 1) := by decide +kernel
theorem dc_R_check_0 : decode bb_R_check 0 = .ok (.aload_n 0, 1) := by decide +kernel
theorem dc_R_check_1 : decode bb_R_check 1 = .ok (.invokevirtual 75, 3) := by decide +kernel
theorem dc_R_check_4 : decode bb_R_check 4 = .ok (.istore_n 1, 1) := by decide +kernel
theorem dc_R_check_5 : decode bb_R_check 5 = .ok (.iload_n 1, 1) := by decide +kernel
theorem dc_R_check_6 : decode bb_R_check 6 = .ok (.ifCond .le 5, 3) := by decide +kernel
theorem dc_R_check_9 : decode bb_R_check 9 = .ok (.iload_n 1, 1) := by decide +kernel
theorem dc_R_check_10 : decode bb_R_check 10 = .ok (.ireturn, 1) := by decide +kernel
theorem dc_R_check_11 : decode bb_R_check 11 = .ok (.aload_n 0, 1) := by decide +kernel
theorem dc_R_check_12 : decode bb_R_check 12 = .ok (.invokevirtual 79, 3) := by decide +kernel
theorem dc_R_check_15 : decode bb_R_check 15 = .ok (.ifCond .eq 5, 3) := by decide +kernel
theorem dc_R_check_18 : decode bb_R_check 18 = .ok (.iconst 3, 1) := by decide +kernel
theorem dc_R_check_19 : decode bb_R_check 19 = .ok (.ireturn, 1) := by decide +kernel
theorem dc_R_check_20 : decode bb_R_check 20 = .ok (.iconst 0, 1) := by decide +kernel
theorem dc_R_check_21 : decode bb_R_check 21 = .ok (.istore_n 2, 1) := by decide +kernel
theorem dc_R_check_22 : decode bb_R_check 22 = .ok (.iconst 0, 1) := by decide +kernel
theorem dc_R_check_23 : decode bb_R_check 23 = .ok (.istore_n 3, 1) := by decide +kernel
theorem dc_R_check_24 : decode bb_R_check 24 = .ok (.iload_n 3, 1) := by decide +kernel
theorem dc_R_check_25 : decode bb_R_check 25 = .ok (.bipush 16, 2) := by decide +kernel
theorem dc_R_check_27 : decode bb_R_check 27 = .ok (.if_icmp .ge 56, 3) := by decide +kernel
theorem dc_R_check_30 : decode bb_R_check 30 = .ok (.iload_n 2, 1) := by decide +kernel
theorem dc_R_check_31 : decode bb_R_check 31 = .ok (.ifCond .ne 40, 3) := by decide +kernel
theorem dc_R_check_34 : decode bb_R_check 34 = .ok (.iload_n 3, 1) := by decide +kernel
theorem dc_R_check_35 : decode bb_R_check 35 = .ok (.bipush 8, 2) := by decide +kernel
theorem dc_R_check_37 : decode bb_R_check 37 = .ok (.aload_n 0, 1) := by decide +kernel
theorem dc_R_check_38 : decode bb_R_check 38 = .ok (.getfield 83, 3) := by decide +kernel
theorem dc_R_check_41 : decode bb_R_check 41 = .ok (.imul, 1) := by decide +kernel
theorem dc_R_check_42 : decode bb_R_check 42 = .ok (.if_icmp .ge 33, 3) := by decide +kernel
theorem dc_R_check_45 : decode bb_R_check 45 = .ok (.aload_n 0, 1) := by decide +kernel
theorem dc_R_check_46 : decode bb_R_check 46 = .ok (.getfield 40, 3) := by decide +kernel
theorem dc_R_check_49 : decode bb_R_check 49 = .ok (.iload_n 3, 1) := by decide +kernel
theorem dc_R_check_50 : decode bb_R_check 50 = .ok (.iaload, 1) := by decide +kernel
theorem dc_R_check_51 : decode bb_R_check 51 = .ok (.ifCond .lt 24, 3) := by decide +kernel
theorem dc_R_check_54 : decode bb_R_check 54 = .ok (.aload_n 0, 1) := by decide +kernel
theorem dc_R_check_55 : decode bb_R_check 55 = .ok (.aload_n 0, 1) := by decide +kernel
theorem dc_R_check_56 : decode bb_R_check 56 = .ok (.getfield 40, 3) := by decide +kernel
theorem dc_R_check_59 : decode bb_R_check 59 = .ok (.iload_n 3, 1) := by decide +kernel
theorem dc_R_check_60 : decode bb_R_check 60 = .ok (.iaload, 1) := by decide +kernel
theorem dc_R_check_61 : decode bb_R_check 61 = .ok (.iload_n 3, 1) := by decide +kernel
theorem dc_R_check_62 : decode bb_R_check 62 = .ok (.bipush 8, 2) := by decide +kernel
theorem dc_R_check_64 : decode bb_R_check 64 = .ok (.irem, 1) := by decide +kernel
theorem dc_R_check_65 : decode bb_R_check 65 = .ok (.invokevirtual 86, 3) := by decide +kernel
theorem dc_R_check_68 : decode bb_R_check 68 = .ok (.ifCond .eq 7, 3) := by decide +kernel
theorem dc_R_check_71 : decode bb_R_check 71 = .ok (.iconst 1, 1) := by decide +kernel
theorem dc_R_check_72 : decode bb_R_check 72 = .ok (.goto 4, 3) := by decide +kernel
theorem dc_R_check_75 : decode bb_R_check 75 = .ok (.iconst 0, 1) := by decide +kernel
theorem dc_R_check_76 : decode bb_R_check 76 = .ok (.istore_n 2, 1) := by decide +kernel
theorem dc_R_check_77 : decode bb_R_check 77 = .ok (.iinc 3 1, 3) := by decide +kernel
theorem dc_R_check_80 : decode bb_R_check 80 = .ok (.goto (-56), 3) := by decide +kernel
theorem dc_R_check_83 : decode bb_R_check 83 = .ok (.iload_n 2, 1) := by decide +kernel
theorem dc_R_check_84 : decode bb_R_check 84 = .ok (.ifCond .eq 5, 3) := by decide +kernel
theorem dc_R_check_87 : decode bb_R_check 87 = .ok (.iconst 4, 1) := by decide +kernel
theorem dc_R_check_88 : decode bb_R_check 88 = .ok (.ireturn, 1) := by decide +kernel
theorem dc_R_check_89 : decode bb_R_check 89 = .ok (.iconst 0, 1) := by decide +kernel
theorem dc_R_check_90 : decode bb_R_check 90 = .ok (.istore_n 3, 1) := by decide +kernel
theorem dc_R_check_91 : decode bb_R_check 91 = .ok (.iconst 0, 1) := by decide +kernel
theorem dc_R_check_92 : decode bb_R_check 92 = .ok (.istore 4, 2) := by decide +kernel
theorem dc_R_check_94 : decode bb_R_check 94 = .ok (.iload 4, 2) := by decide +kernel
theorem dc_R_check_96 : decode bb_R_check 96 = .ok (.aload_n 0, 1) := by decide +kernel
theorem dc_R_check_97 : decode bb_R_check 97 = .ok (.getfield 83, 3) := by decide +kernel
theorem dc_R_check_100 : decode bb_R_check 100 = .ok (.if_icmp .ge 28, 3) := by decide +kernel
theorem dc_R_check_103 : decode bb_R_check 103 = .ok (.iload_n 3, 1) := by decide +kernel
theorem dc_R_check_104 : decode bb_R_check 104 = .ok (.ifCond .ne 12, 3) := by decide +kernel
theorem dc_R_check_107 : decode bb_R_check 107 = .ok (.aload_n 0, 1) := by decide +kernel
theorem dc_R_check_108 : decode bb_R_check 108 = .ok (.iload 4, 2) := by decide +kernel
theorem dc_R_check_110 : decode bb_R_check 110 = .ok (.invokevirtual 90, 3) := by decide +kernel
theorem dc_R_check_113 : decode bb_R_check 113 = .ok (.ifCond .eq 7, 3) := by decide +kernel
theorem dc_R_check_116 : decode bb_R_check 116 = .ok (.iconst 1, 1) := by decide +kernel
theorem dc_R_check_117 : decode bb_R_check 117 = .ok (.goto 4, 3) := by decide +kernel
theorem dc_R_check_120 : decode bb_R_check 120 = .ok (.iconst 0, 1) := by decide +kernel
theorem dc_R_check_121 : decode bb_R_check 121 = .ok (.istore_n 3, 1) := by decide +kernel
theorem dc_R_check_122 : decode bb_R_check 122 = .ok (.iinc 4 1, 3) := by decide +kernel
theorem dc_R_check_125 : decode bb_R_check 125 = .ok (.goto (-31), 3) := by decide +kernel
theorem dc_R_check_128 : decode bb_R_check 128 = .ok (.iload_n 3, 1) := by decide +kernel
theorem dc_R_check_129 : decode bb_R_check 129 = .ok (.ifCond .eq 5, 3) := by decide +kernel
theorem dc_R_check_132 : decode bb_R_check 132 = .ok (.iconst 5, 1) := by decide +kernel
theorem dc_R_check_133 : decode bb_R_check 133 = .ok (.ireturn, 1) := by decide +kernel
theorem dc_R_check_134 : decode bb_R_check 134 = .ok (.iconst 0, 1) := by decide +kernel
theorem dc_R_check_135 : decode bb_R_check 135 = .ok (.istore 4, 2) := by decide +kernel
theorem dc_R_check_137 : decode bb_R_check 137 = .ok (.iconst 0, 1) := by decide +kernel
theorem dc_R_check_138 : decode bb_R_check 138 = .ok (.istore 5, 2) := by decide +kernel
theorem dc_R_check_140 : decode bb_R_check 140 = .ok (.iload 5, 2) := by decide +kernel
theorem dc_R_check_142 : decode bb_R_check 142 = .ok (.aload_n 0, 1) := by decide +kernel
theorem dc_R_check_143 : decode bb_R_check 143 = .ok (.getfield 83, 3) := by decide +kernel
theorem dc_R_check_146 : decode bb_R_check 146 = .ok (.if_icmp .ge 42, 3) := by decide +kernel
theorem dc_R_check_149 : decode bb_R_check 149 = .ok (.aload_n 0, 1) := by decide +kernel
theorem dc_R_check_150 : decode bb_R_check 150 = .ok (.iload 5, 2) := by decide +kernel
theorem dc_R_check_152 : decode bb_R_check 152 = .ok (.invokevirtual 93, 3) := by decide +kernel
theorem dc_R_check_155 : decode bb_R_check 155 = .ok (.ifCond .ne 7, 3) := by decide +kernel
theorem dc_R_check_158 : decode bb_R_check 158 = .ok (.iconst 1, 1) := by decide +kernel
theorem dc_R_check_159 : decode bb_R_check 159 = .ok (.goto 4, 3) := by decide +kernel
theorem dc_R_check_162 : decode bb_R_check 162 = .ok (.iconst 0, 1) := by decide +kernel
theorem dc_R_check_163 : decode bb_R_check 163 = .ok (.istore 6, 2) := by decide +kernel
theorem dc_R_check_165 : decode bb_R_check 165 = .ok (.iload 4, 2) := by decide +kernel
theorem dc_R_check_167 : decode bb_R_check 167 = .ok (.ifCond .ne 8, 3) := by decide +kernel
theorem dc_R_check_170 : decode bb_R_check 170 = .ok (.iload 6, 2) := by decide +kernel
theorem dc_R_check_172 : decode bb_R_check 172 = .ok (.ifCond .eq 7, 3) := by decide +kernel
theorem dc_R_check_175 : decode bb_R_check 175 = .ok (.iconst 1, 1) := by decide +kernel
theorem dc_R_check_176 : decode bb_R_check 176 = .ok (.goto 4, 3) := by decide +kernel
theorem dc_R_check_179 : decode bb_R_check 179 = .ok (.iconst 0, 1) := by decide +kernel
theorem dc_R_check_180 : decode bb_R_check 180 = .ok (.istore 4, 2) := by decide +kernel
theorem dc_R_check_182 : decode bb_R_check 182 = .ok (.iinc 5 1, 3) := by decide +kernel
theorem dc_R_check_185 : decode bb_R_check 185 = .ok (.goto (-45), 3) := by decide +kernel
theorem dc_R_check_188 : decode bb_R_check 188 = .ok (.iload 4, 2) := by decide +kernel
theorem dc_R_check_190 : decode bb_R_check 190 = .ok (.ifCond .eq 8, 3) := by decide +kernel
theorem dc_R_check_193 : decode bb_R_check 193 = .ok (.bipush 6, 2) := by decide +kernel
theorem dc_R_check_195 : decode bb_R_check 195 = .ok (.goto 4, 3) := by decide +kernel
theorem dc_R_check_198 : decode bb_R_check 198 = .ok (.iconst 0, 1) := by decide +kernel
theorem dc_R_check_199 : decode bb_R_check 199 = .ok (.ireturn, 1) := by decide +kernel
theorem dc_R_read_0 : decode bb_R_read 0 = .ok (.aload_n 0, 1) := by decide +kernel
theorem dc_R_read_1 : decode bb_R_read 1 = .ok (.iconst 0, 1) := by decide +kernel
theorem dc_R_read_2 : decode bb_R_read 2 = .ok (.putfield 64, 3) := by decide +kernel
theorem dc_R_read_5 : decode bb_R_read 5 = .ok (.iconst 0, 1) := by decide +kernel
theorem dc_R_read_6 : decode bb_R_read 6 = .ok (.istore_n 1, 1) := by decide +kernel
theorem dc_R_read_7 : decode bb_R_read 7 = .ok (.iconst 0, 1) := by decide +kernel
theorem dc_R_read_8 : decode bb_R_read 8 = .ok (.istore_n 2, 1) := by decide +kernel
theorem dc_R_read_9 : decode bb_R_read 9 = .ok (.aload_n 0, 1) := by decide +kernel
theorem dc_R_read_10 : decode bb_R_read 10 = .ok (.getfield 31, 3) := by decide +kernel
theorem dc_R_read_13 : decode bb_R_read 13 = .ok (.iconst 0, 1) := by decide +kernel
theorem dc_R_read_14 : decode bb_R_read 14 = .ok (.aload_n 0, 1) := by decide +kernel
theorem dc_R_read_15 : decode bb_R_read 15 = .ok (.getfield 58, 3) := by decide +kernel
theorem dc_R_read_18 : decode bb_R_read 18 = .ok (.iastore, 1) := by decide +kernel
theorem dc_R_read_19 : decode bb_R_read 19 = .ok (.aload_n 0, 1) := by decide +kernel
theorem dc_R_read_20 : decode bb_R_read 20 = .ok (.getfield 34, 3) := by decide +kernel
theorem dc_R_read_23 : decode bb_R_read 23 = .ok (.iconst 0, 1) := by decide +kernel
theorem dc_R_read_24 : decode bb_R_read 24 = .ok (.iconst (-1), 1) := by decide +kernel
theorem dc_R_read_25 : decode bb_R_read 25 = .ok (.iastore, 1) := by decide +kernel
theorem dc_R_read_26 : decode bb_R_read 26 = .ok (.iconst 0, 1) := by decide +kernel
theorem dc_R_read_27 : decode bb_R_read 27 = .ok (.istore_n 3, 1) := by decide +kernel
theorem dc_R_read_28 : decode bb_R_read 28 = .ok (.iload_n 3, 1) := by decide +kernel
theorem dc_R_read_29 : decode bb_R_read 29 = .ok (.bipush 100, 2) := by decide +kernel
theorem dc_R_read_31 : decode bb_R_read 31 = .ok (.if_icmp .ge 137, 3) := by decide +kernel
theorem dc_R_read_34 : decode bb_R_read 34 = .ok (.iload_n 2, 1) := by decide +kernel
theorem dc_R_read_35 : decode bb_R_read 35 = .ok (.ifCond .le 19, 3) := by decide +kernel
theorem dc_R_read_38 : decode bb_R_read 38 = .ok (.iload_n 1, 1) := by decide +kernel
theorem dc_R_read_39 : decode bb_R_read 39 = .ok (.aload_n 0, 1) := by decide +kernel
theorem dc_R_read_40 : decode bb_R_read 40 = .ok (.getfield 31, 3) := by decide +kernel
theorem dc_R_read_43 : decode bb_R_read 43 = .ok (.iload_n 2, 1) := by decide +kernel
theorem dc_R_read_44 : decode bb_R_read 44 = .ok (.iaload, 1) := by decide +kernel
theorem dc_R_read_45 : decode bb_R_read 45 = .ok (.if_icmp .ne 9, 3) := by decide +kernel
theorem dc_R_read_48 : decode bb_R_read 48 = .ok (.iinc 2 (-1), 3) := by decide +kernel
theorem dc_R_read_51 : decode bb_R_read 51 = .ok (.goto (-17), 3) := by decide +kernel
theorem dc_R_read_54 : decode bb_R_read 54 = .ok (.iload_n 1, 1) := by decide +kernel
theorem dc_R_read_55 : decode bb_R_read 55 = .ok (.aload_n 0, 1) := by decide +kernel
theorem dc_R_read_56 : decode bb_R_read 56 = .ok (.getfield 31, 3) := by decide +kernel
theorem dc_R_read_59 : decode bb_R_read 59 = .ok (.iload_n 2, 1) := by decide +kernel
theorem dc_R_read_60 : decode bb_R_read 60 = .ok (.iaload, 1) := by decide +kernel
theorem dc_R_read_61 : decode bb_R_read 61 = .ok (.if_icmp .ne 5, 3) := by decide +kernel
theorem dc_R_read_64 : decode bb_R_read 64 = .ok (.iconst 0, 1) := by decide +kernel
theorem dc_R_read_65 : decode bb_R_read 65 = .ok (.ireturn, 1) := by decide +kernel
theorem dc_R_read_66 : decode bb_R_read 66 = .ok (.aload_n 0, 1) := by decide +kernel
theorem dc_R_read_67 : decode bb_R_read 67 = .ok (.getfield 64, 3) := by decide +kernel
theorem dc_R_read_70 : decode bb_R_read 70 = .ok (.bipush 20, 2) := by decide +kernel
theorem dc_R_read_72 : decode bb_R_read 72 = .ok (.if_icmp .ne 5, 3) := by decide +kernel
theorem dc_R_read_75 : decode bb_R_read 75 = .ok (.iconst 2, 1) := by decide +kernel
theorem dc_R_read_76 : decode bb_R_read 76 = .ok (.ireturn, 1) := by decide +kernel
theorem dc_R_read_77 : decode bb_R_read 77 = .ok (.aload_n 0, 1) := by decide +kernel
theorem dc_R_read_78 : decode bb_R_read 78 = .ok (.iload_n 1, 1) := by decide +kernel
theorem dc_R_read_79 : decode bb_R_read 79 = .ok (.aload_n 0, 1) := by decide +kernel
theorem dc_R_read_80 : decode bb_R_read 80 = .ok (.getfield 31, 3) := by decide +kernel
theorem dc_R_read_83 : decode bb_R_read 83 = .ok (.iload_n 2, 1) := by decide +kernel
theorem dc_R_read_84 : decode bb_R_read 84 = .ok (.iaload, 1) := by decide +kernel
theorem dc_R_read_85 : decode bb_R_read 85 = .ok (.iload_n 1, 1) := by decide +kernel
theorem dc_R_read_86 : decode bb_R_read 86 = .ok (.isub, 1) := by decide +kernel
theorem dc_R_read_87 : decode bb_R_read 87 = .ok (.iload_n 2, 1) := by decide +kernel
theorem dc_R_read_88 : decode bb_R_read 88 = .ok (.invokevirtual 67, 3) := by decide +kernel
theorem dc_R_read_91 : decode bb_R_read 91 = .ok (.ifCond .ne 5, 3) := by decide +kernel
theorem dc_R_read_94 : decode bb_R_read 94 = .ok (.iconst 1, 1) := by decide +kernel
theorem dc_R_read_95 : decode bb_R_read 95 = .ok (.ireturn, 1) := by decide +kernel
theorem dc_R_read_96 : decode bb_R_read 96 = .ok (.aload_n 0, 1) := by decide +kernel
theorem dc_R_read_97 : decode bb_R_read 97 = .ok (.getfield 64, 3) := by decide +kernel
theorem dc_R_read_100 : decode bb_R_read 100 = .ok (.iconst 1, 1) := by decide +kernel
theorem dc_R_read_101 : decode bb_R_read 101 = .ok (.isub, 1) := by decide +kernel
theorem dc_R_read_102 : decode bb_R_read 102 = .ok (.istore 4, 2) := by decide +kernel
theorem dc_R_read_104 : decode bb_R_read 104 = .ok (.aload_n 0, 1) := by decide +kernel
theorem dc_R_read_105 : decode bb_R_read 105 = .ok (.iload 4, 2) := by decide +kernel
theorem dc_R_read_107 : decode bb_R_read 107 = .ok (.invokevirtual 71, 3) := by decide +kernel
theorem dc_R_read_110 : decode bb_R_read 110 = .ok (.ifCond .eq 42, 3) := by decide +kernel
theorem dc_R_read_113 : decode bb_R_read 113 = .ok (.iinc 2 1, 3) := by decide +kernel
theorem dc_R_read_116 : decode bb_R_read 116 = .ok (.aload_n 0, 1) := by decide +kernel
theorem dc_R_read_117 : decode bb_R_read 117 = .ok (.getfield 31, 3) := by decide +kernel
theorem dc_R_read_120 : decode bb_R_read 120 = .ok (.iload_n 2, 1) := by decide +kernel
theorem dc_R_read_121 : decode bb_R_read 121 = .ok (.iload_n 1, 1) := by decide +kernel
theorem dc_R_read_122 : decode bb_R_read 122 = .ok (.aload_n 0, 1) := by decide +kernel
theorem dc_R_read_123 : decode bb_R_read 123 = .ok (.getfield 16, 3) := by decide +kernel
theorem dc_R_read_126 : decode bb_R_read 126 = .ok (.iload 4, 2) := by decide +kernel
theorem dc_R_read_128 : decode bb_R_read 128 = .ok (.iaload, 1) := by decide +kernel
theorem dc_R_read_129 : decode bb_R_read 129 = .ok (.iadd, 1) := by decide +kernel
theorem dc_R_read_130 : decode bb_R_read 130 = .ok (.iastore, 1) := by decide +kernel
theorem dc_R_read_131 : decode bb_R_read 131 = .ok (.aload_n 0, 1) := by decide +kernel
theorem dc_R_read_132 : decode bb_R_read 132 = .ok (.getfield 34, 3) := by decide +kernel
theorem dc_R_read_135 : decode bb_R_read 135 = .ok (.iload_n 2, 1) := by decide +kernel
theorem dc_R_read_136 : decode bb_R_read 136 = .ok (.iload 4, 2) := by decide +kernel
theorem dc_R_read_138 : decode bb_R_read 138 = .ok (.iastore, 1) := by decide +kernel
theorem dc_R_read_139 : decode bb_R_read 139 = .ok (.iload_n 1, 1) := by decide +kernel
theorem dc_R_read_140 : decode bb_R_read 140 = .ok (.aload_n 0, 1) := by decide +kernel
theorem dc_R_read_141 : decode bb_R_read 141 = .ok (.getfield 22, 3) := by decide +kernel
theorem dc_R_read_144 : decode bb_R_read 144 = .ok (.iload 4, 2) := by decide +kernel
theorem dc_R_read_146 : decode bb_R_read 146 = .ok (.iaload, 1) := by decide +kernel
theorem dc_R_read_147 : decode bb_R_read 147 = .ok (.iadd, 1) := by decide +kernel
theorem dc_R_read_148 : decode bb_R_read 148 = .ok (.istore_n 1, 1) := by decide +kernel
theorem dc_R_read_149 : decode bb_R_read 149 = .ok (.goto 13, 3) := by decide +kernel
theorem dc_R_read_152 : decode bb_R_read 152 = .ok (.iload_n 1, 1) := by decide +kernel
theorem dc_R_read_153 : decode bb_R_read 153 = .ok (.aload_n 0, 1) := by decide +kernel
theorem dc_R_read_154 : decode bb_R_read 154 = .ok (.getfield 16, 3) := by decide +kernel
theorem dc_R_read_157 : decode bb_R_read 157 = .ok (.iload 4, 2) := by decide +kernel
theorem dc_R_read_159 : decode bb_R_read 159 = .ok (.iaload, 1) := by decide +kernel
theorem dc_R_read_160 : decode bb_R_read 160 = .ok (.iadd, 1) := by decide +kernel
theorem dc_R_read_161 : decode bb_R_read 161 = .ok (.istore_n 1, 1) := by decide +kernel
theorem dc_R_read_162 : decode bb_R_read 162 = .ok (.iinc 3 1, 3) := by decide +kernel
theorem dc_R_read_165 : decode bb_R_read 165 = .ok (.goto (-137), 3) := by decide +kernel
theorem dc_R_read_168 : decode bb_R_read 168 = .ok (.iconst 0, 1) := by decide +kernel
theorem dc_R_read_169 : decode bb_R_read 169 = .ok (.ireturn, 1) := by decide +kernel
theorem dc_R_readOne_0 : decode bb_R_readOne 0 = .ok (.iload_n 2, 1) := by decide +kernel
theorem dc_R_readOne_1 : decode bb_R_readOne 1 = .ok (.iconst 2, 1) := by decide +kernel
theorem dc_R_readOne_2 : decode bb_R_readOne 2 = .ok (.if_icmp .ge 5, 3) := by decide +kernel
theorem dc_R_readOne_5 : decode bb_R_readOne 5 = .ok (.iconst 0, 1) := by decide +kernel
theorem dc_R_readOne_6 : decode bb_R_readOne 6 = .ok (.ireturn, 1) := by decide +kernel
theorem dc_R_readOne_7 : decode bb_R_readOne 7 = .ok (.aload_n 0, 1) := by decide +kernel
theorem dc_R_readOne_8 : decode bb_R_readOne 8 = .ok (.getfield 7, 3) := by decide +kernel
theorem dc_R_readOne_11 : decode bb_R_readOne 11 = .ok (.iload_n 1, 1) := by decide +kernel
theorem dc_R_readOne_12 : decode bb_R_readOne 12 = .ok (.iaload, 1) := by decide +kernel
theorem dc_R_readOne_13 : decode bb_R_readOne 13 = .ok (.istore 4, 2) := by decide +kernel
theorem dc_R_readOne_15 : decode bb_R_readOne 15 = .ok (.iload 4, 2) := by decide +kernel
theorem dc_R_readOne_17 : decode bb_R_readOne 17 = .ok (.iconst 1, 1) := by decide +kernel
theorem dc_R_readOne_18 : decode bb_R_readOne 18 = .ok (.if_icmp .ne 7, 3) := by decide +kernel
theorem dc_R_readOne_21 : decode bb_R_readOne 21 = .ok (.iconst 4, 1) := by decide +kernel
theorem dc_R_readOne_22 : decode bb_R_readOne 22 = .ok (.goto 4, 3) := by decide +kernel
theorem dc_R_readOne_25 : decode bb_R_readOne 25 = .ok (.iconst 2, 1) := by decide +kernel
theorem dc_R_readOne_26 : decode bb_R_readOne 26 = .ok (.istore 5, 2) := by decide +kernel
theorem dc_R_readOne_28 : decode bb_R_readOne 28 = .ok (.iload_n 2, 1) := by decide +kernel
theorem dc_R_readOne_29 : decode bb_R_readOne 29 = .ok (.iload 5, 2) := by decide +kernel
theorem dc_R_readOne_31 : decode bb_R_readOne 31 = .ok (.if_icmp .lt 12, 3) := by decide +kernel
theorem dc_R_readOne_34 : decode bb_R_readOne 34 = .ok (.iload 4, 2) := by decide +kernel
theorem dc_R_readOne_36 : decode bb_R_readOne 36 = .ok (.ifCond .ne 9, 3) := by decide +kernel
theorem dc_R_readOne_39 : decode bb_R_readOne 39 = .ok (.iload_n 3, 1) := by decide +kernel
theorem dc_R_readOne_40 : decode bb_R_readOne 40 = .ok (.ifCond .le 5, 3) := by decide +kernel
theorem dc_R_readOne_43 : decode bb_R_readOne 43 = .ok (.iconst 0, 1) := by decide +kernel
theorem dc_R_readOne_44 : decode bb_R_readOne 44 = .ok (.ireturn, 1) := by decide +kernel
theorem dc_R_readOne_45 : decode bb_R_readOne 45 = .ok (.iload 4, 2) := by decide +kernel
theorem dc_R_readOne_47 : decode bb_R_readOne 47 = .ok (.ifCond .ne 7, 3) := by decide +kernel
theorem dc_R_readOne_50 : decode bb_R_readOne 50 = .ok (.iload_n 2, 1) := by decide +kernel
theorem dc_R_readOne_51 : decode bb_R_readOne 51 = .ok (.goto 35, 3) := by decide +kernel
theorem dc_R_readOne_54 : decode bb_R_readOne 54 = .ok (.iload 4, 2) := by decide +kernel
theorem dc_R_readOne_56 : decode bb_R_readOne 56 = .ok (.iconst 1, 1) := by decide +kernel
theorem dc_R_readOne_57 : decode bb_R_readOne 57 = .ok (.if_icmp .ne 27, 3) := by decide +kernel
theorem dc_R_readOne_60 : decode bb_R_readOne 60 = .ok (.sipush 256, 3) := by decide +kernel
theorem dc_R_readOne_63 : decode bb_R_readOne 63 = .ok (.aload_n 0, 1) := by decide +kernel
theorem dc_R_readOne_64 : decode bb_R_readOne 64 = .ok (.getfield 7, 3) := by decide +kernel
theorem dc_R_readOne_67 : decode bb_R_readOne 67 = .ok (.iload_n 1, 1) := by decide +kernel
theorem dc_R_readOne_68 : decode bb_R_readOne 68 = .ok (.iconst 2, 1) := by decide +kernel
theorem dc_R_readOne_69 : decode bb_R_readOne 69 = .ok (.iadd, 1) := by decide +kernel
theorem dc_R_readOne_70 : decode bb_R_readOne 70 = .ok (.iaload, 1) := by decide +kernel
theorem dc_R_readOne_71 : decode bb_R_readOne 71 = .ok (.imul, 1) := by decide +kernel
theorem dc_R_readOne_72 : decode bb_R_readOne 72 = .ok (.aload_n 0, 1) := by decide +kernel
theorem dc_R_readOne_73 : decode bb_R_readOne 73 = .ok (.getfield 7, 3) := by decide +kernel
theorem dc_R_readOne_76 : decode bb_R_readOne 76 = .ok (.iload_n 1, 1) := by decide +kernel
theorem dc_R_readOne_77 : decode bb_R_readOne 77 = .ok (.iconst 3, 1) := by decide +kernel
theorem dc_R_readOne_78 : decode bb_R_readOne 78 = .ok (.iadd, 1) := by decide +kernel
theorem dc_R_readOne_79 : decode bb_R_readOne 79 = .ok (.iaload, 1) := by decide +kernel
theorem dc_R_readOne_80 : decode bb_R_readOne 80 = .ok (.iadd, 1) := by decide +kernel
theorem dc_R_readOne_81 : decode bb_R_readOne 81 = .ok (.goto 5, 3) := by decide +kernel
theorem dc_R_readOne_84 : decode bb_R_readOne 84 = .ok (.iload 4, 2) := by decide +kernel
theorem dc_R_readOne_86 : decode bb_R_readOne 86 = .ok (.istore 6, 2) := by decide +kernel
theorem dc_R_readOne_88 : decode bb_R_readOne 88 = .ok (.iload 6, 2) := by decide +kernel
theorem dc_R_readOne_90 : decode bb_R_readOne 90 = .ok (.iload 5, 2) := by decide +kernel
theorem dc_R_readOne_92 : decode bb_R_readOne 92 = .ok (.if_icmp .lt 9, 3) := by decide +kernel
theorem dc_R_readOne_95 : decode bb_R_readOne 95 = .ok (.iload 6, 2) := by decide +kernel
theorem dc_R_readOne_97 : decode bb_R_readOne 97 = .ok (.iload_n 2, 1) := by decide +kernel
theorem dc_R_readOne_98 : decode bb_R_readOne 98 = .ok (.if_icmp .le 5, 3) := by decide +kernel
theorem dc_R_readOne_101 : decode bb_R_readOne 101 = .ok (.iconst 0, 1) := by decide +kernel
theorem dc_R_readOne_102 : decode bb_R_readOne 102 = .ok (.ireturn, 1) := by decide +kernel
theorem dc_R_readOne_103 : decode bb_R_readOne 103 = .ok (.aload_n 0, 1) := by decide +kernel
theorem dc_R_readOne_104 : decode bb_R_readOne 104 = .ok (.getfield 13, 3) := by decide +kernel
theorem dc_R_readOne_107 : decode bb_R_readOne 107 = .ok (.aload_n 0, 1) := by decide +kernel
theorem dc_R_readOne_108 : decode bb_R_readOne 108 = .ok (.getfield 64, 3) := by decide +kernel
theorem dc_R_readOne_111 : decode bb_R_readOne 111 = .ok (.iload_n 1, 1) := by decide +kernel
theorem dc_R_readOne_112 : decode bb_R_readOne 112 = .ok (.iastore, 1) := by decide +kernel
theorem dc_R_readOne_113 : decode bb_R_readOne 113 = .ok (.aload_n 0, 1) := by decide +kernel
theorem dc_R_readOne_114 : decode bb_R_readOne 114 = .ok (.getfield 16, 3) := by decide +kernel
theorem dc_R_readOne_117 : decode bb_R_readOne 117 = .ok (.aload_n 0, 1) := by decide +kernel
theorem dc_R_readOne_118 : decode bb_R_readOne 118 = .ok (.getfield 64, 3) := by decide +kernel
theorem dc_R_readOne_121 : decode bb_R_readOne 121 = .ok (.iload 6, 2) := by decide +kernel
theorem dc_R_readOne_123 : decode bb_R_readOne 123 = .ok (.iastore, 1) := by decide +kernel
theorem dc_R_readOne_124 : decode bb_R_readOne 124 = .ok (.aload_n 0, 1) := by decide +kernel
theorem dc_R_readOne_125 : decode bb_R_readOne 125 = .ok (.getfield 19, 3) := by decide +kernel
theorem dc_R_readOne_128 : decode bb_R_readOne 128 = .ok (.aload_n 0, 1) := by decide +kernel
theorem dc_R_readOne_129 : decode bb_R_readOne 129 = .ok (.getfield 64, 3) := by decide +kernel
theorem dc_R_readOne_132 : decode bb_R_readOne 132 = .ok (.aload_n 0, 1) := by decide +kernel
theorem dc_R_readOne_133 : decode bb_R_readOne 133 = .ok (.getfield 7, 3) := by decide +kernel
theorem dc_R_readOne_136 : decode bb_R_readOne 136 = .ok (.iload_n 1, 1) := by decide +kernel
theorem dc_R_readOne_137 : decode bb_R_readOne 137 = .ok (.iconst 1, 1) := by decide +kernel
theorem dc_R_readOne_138 : decode bb_R_readOne 138 = .ok (.iadd, 1) := by decide +kernel
theorem dc_R_readOne_139 : decode bb_R_readOne 139 = .ok (.iaload, 1) := by decide +kernel
theorem dc_R_readOne_140 : decode bb_R_readOne 140 = .ok (.iastore, 1) := by decide +kernel
theorem dc_R_readOne_141 : decode bb_R_readOne 141 = .ok (.aload_n 0, 1) := by decide +kernel
theorem dc_R_readOne_142 : decode bb_R_readOne 142 = .ok (.getfield 22, 3) := by decide +kernel
theorem dc_R_readOne_145 : decode bb_R_readOne 145 = .ok (.aload_n 0, 1) := by decide +kernel
theorem dc_R_readOne_146 : decode bb_R_readOne 146 = .ok (.getfield 64, 3) := by decide +kernel
theorem dc_R_readOne_149 : decode bb_R_readOne 149 = .ok (.iload 5, 2) := by decide +kernel
theorem dc_R_readOne_151 : decode bb_R_readOne 151 = .ok (.iastore, 1) := by decide +kernel
theorem dc_R_readOne_152 : decode bb_R_readOne 152 = .ok (.aload_n 0, 1) := by decide +kernel
theorem dc_R_readOne_153 : decode bb_R_readOne 153 = .ok (.getfield 25, 3) := by decide +kernel
theorem dc_R_readOne_156 : decode bb_R_readOne 156 = .ok (.aload_n 0, 1) := by decide +kernel
theorem dc_R_readOne_157 : decode bb_R_readOne 157 = .ok (.getfield 64, 3) := by decide +kernel
theorem dc_R_readOne_160 : decode bb_R_readOne 160 = .ok (.iload_n 3, 1) := by decide +kernel
theorem dc_R_readOne_161 : decode bb_R_readOne 161 = .ok (.iastore, 1) := by decide +kernel
theorem dc_R_readOne_162 : decode bb_R_readOne 162 = .ok (.aload_n 0, 1) := by decide +kernel
theorem dc_R_readOne_163 : decode bb_R_readOne 163 = .ok (.getfield 28, 3) := by decide +kernel
theorem dc_R_readOne_166 : decode bb_R_readOne 166 = .ok (.aload_n 0, 1) := by decide +kernel
theorem dc_R_readOne_167 : decode bb_R_readOne 167 = .ok (.getfield 64, 3) := by decide +kernel
theorem dc_R_readOne_170 : decode bb_R_readOne 170 = .ok (.aload_n 0, 1) := by decide +kernel
theorem dc_R_readOne_171 : decode bb_R_readOne 171 = .ok (.getfield 34, 3) := by decide +kernel
theorem dc_R_readOne_174 : decode bb_R_readOne 174 = .ok (.iload_n 3, 1) := by decide +kernel
theorem dc_R_readOne_175 : decode bb_R_readOne 175 = .ok (.iaload, 1) := by decide +kernel
theorem dc_R_readOne_176 : decode bb_R_readOne 176 = .ok (.iastore, 1) := by decide +kernel
theorem dc_R_readOne_177 : decode bb_R_readOne 177 = .ok (.aload_n 0, 1) := by decide +kernel
theorem dc_R_readOne_178 : decode bb_R_readOne 178 = .ok (.dup, 1) := by decide +kernel
theorem dc_R_readOne_179 : decode bb_R_readOne 179 = .ok (.getfield 64, 3) := by decide +kernel
theorem dc_R_readOne_182 : decode bb_R_readOne 182 = .ok (.iconst 1, 1) := by decide +kernel
theorem dc_R_readOne_183 : decode bb_R_readOne 183 = .ok (.iadd, 1) := by decide +kernel
theorem dc_R_readOne_184 : decode bb_R_readOne 184 = .ok (.putfield 64, 3) := by decide +kernel
theorem dc_R_readOne_187 : decode bb_R_readOne 187 = .ok (.iconst 1, 1) := by decide +kernel
theorem dc_R_readOne_188 : decode bb_R_readOne 188 = .ok (.ireturn, 1) := by decide +kernel
theorem dc_R_isHolder_0 : decode bb_R_isHolder 0 = .ok (.aload_n 0, 1) := by decide +kernel
theorem dc_R_isHolder_1 : decode bb_R_isHolder 1 = .ok (.getfield 25, 3) := by decide +kernel
theorem dc_R_isHolder_4 : decode bb_R_isHolder 4 = .ok (.iload_n 1, 1) := by decide +kernel
theorem dc_R_isHolder_5 : decode bb_R_isHolder 5 = .ok (.iaload, 1) := by decide +kernel
theorem dc_R_isHolder_6 : decode bb_R_isHolder 6 = .ok (.ifCond .ne 14, 3) := by decide +kernel
theorem dc_R_isHolder_9 : decode bb_R_isHolder 9 = .ok (.aload_n 0, 1) := by decide +kernel
theorem dc_R_isHolder_10 : decode bb_R_isHolder 10 = .ok (.getfield 19, 3) := by decide +kernel
theorem dc_R_isHolder_13 : decode bb_R_isHolder 13 = .ok (.iload_n 1, 1) := by decide +kernel
theorem dc_R_isHolder_14 : decode bb_R_isHolder 14 = .ok (.iaload, 1) := by decide +kernel
theorem dc_R_isHolder_15 : decode bb_R_isHolder 15 = .ok (.bipush 77, 2) := by decide +kernel
theorem dc_R_isHolder_17 : decode bb_R_isHolder 17 = .ok (.if_icmp .eq 24, 3) := by decide +kernel
theorem dc_R_isHolder_20 : decode bb_R_isHolder 20 = .ok (.aload_n 0, 1) := by decide +kernel
theorem dc_R_isHolder_21 : decode bb_R_isHolder 21 = .ok (.getfield 25, 3) := by decide +kernel
theorem dc_R_isHolder_24 : decode bb_R_isHolder 24 = .ok (.iload_n 1, 1) := by decide +kernel
theorem dc_R_isHolder_25 : decode bb_R_isHolder 25 = .ok (.iaload, 1) := by decide +kernel
theorem dc_R_isHolder_26 : decode bb_R_isHolder 26 = .ok (.iconst 1, 1) := by decide +kernel
theorem dc_R_isHolder_27 : decode bb_R_isHolder 27 = .ok (.if_icmp .ne 18, 3) := by decide +kernel
theorem dc_R_isHolder_30 : decode bb_R_isHolder 30 = .ok (.aload_n 0, 1) := by decide +kernel
theorem dc_R_isHolder_31 : decode bb_R_isHolder 31 = .ok (.getfield 19, 3) := by decide +kernel
theorem dc_R_isHolder_34 : decode bb_R_isHolder 34 = .ok (.iload_n 1, 1) := by decide +kernel
theorem dc_R_isHolder_35 : decode bb_R_isHolder 35 = .ok (.iaload, 1) := by decide +kernel
theorem dc_R_isHolder_36 : decode bb_R_isHolder 36 = .ok (.bipush 84, 2) := by decide +kernel
theorem dc_R_isHolder_38 : decode bb_R_isHolder 38 = .ok (.if_icmp .ne 7, 3) := by decide +kernel
theorem dc_R_isHolder_41 : decode bb_R_isHolder 41 = .ok (.iconst 1, 1) := by decide +kernel
theorem dc_R_isHolder_42 : decode bb_R_isHolder 42 = .ok (.goto 4, 3) := by decide +kernel
theorem dc_R_isHolder_45 : decode bb_R_isHolder 45 = .ok (.iconst 0, 1) := by decide +kernel
theorem dc_R_isHolder_46 : decode bb_R_isHolder 46 = .ok (.ireturn, 1) := by decide +kernel
theorem dc_R_kindsWrong_0 : decode bb_R_kindsWrong 0 = .ok (.iconst 0, 1) := by decide +kernel
theorem dc_R_kindsWrong_1 : decode bb_R_kindsWrong 1 = .ok (.istore_n 1, 1) := by decide +kernel
theorem dc_R_kindsWrong_2 : decode bb_R_kindsWrong 2 = .ok (.aload_n 0, 1) := by decide +kernel
theorem dc_R_kindsWrong_3 : decode bb_R_kindsWrong 3 = .ok (.iconst 0, 1) := by decide +kernel
theorem dc_R_kindsWrong_4 : decode bb_R_kindsWrong 4 = .ok (.putfield 83, 3) := by decide +kernel
theorem dc_R_kindsWrong_7 : decode bb_R_kindsWrong 7 = .ok (.iconst 0, 1) := by decide +kernel
theorem dc_R_kindsWrong_8 : decode bb_R_kindsWrong 8 = .ok (.istore_n 2, 1) := by decide +kernel
theorem dc_R_kindsWrong_9 : decode bb_R_kindsWrong 9 = .ok (.iconst 0, 1) := by decide +kernel
theorem dc_R_kindsWrong_10 : decode bb_R_kindsWrong 10 = .ok (.istore_n 3, 1) := by decide +kernel
theorem dc_R_kindsWrong_11 : decode bb_R_kindsWrong 11 = .ok (.iload_n 3, 1) := by decide +kernel
theorem dc_R_kindsWrong_12 : decode bb_R_kindsWrong 12 = .ok (.bipush 16, 2) := by decide +kernel
theorem dc_R_kindsWrong_14 : decode bb_R_kindsWrong 14 = .ok (.if_icmp .ge 16, 3) := by decide +kernel
theorem dc_R_kindsWrong_17 : decode bb_R_kindsWrong 17 = .ok (.aload_n 0, 1) := by decide +kernel
theorem dc_R_kindsWrong_18 : decode bb_R_kindsWrong 18 = .ok (.getfield 40, 3) := by decide +kernel
theorem dc_R_kindsWrong_21 : decode bb_R_kindsWrong 21 = .ok (.iload_n 3, 1) := by decide +kernel
theorem dc_R_kindsWrong_22 : decode bb_R_kindsWrong 22 = .ok (.iconst (-1), 1) := by decide +kernel
theorem dc_R_kindsWrong_23 : decode bb_R_kindsWrong 23 = .ok (.iastore, 1) := by decide +kernel
theorem dc_R_kindsWrong_24 : decode bb_R_kindsWrong 24 = .ok (.iinc 3 1, 3) := by decide +kernel
theorem dc_R_kindsWrong_27 : decode bb_R_kindsWrong 27 = .ok (.goto (-16), 3) := by decide +kernel
theorem dc_R_kindsWrong_30 : decode bb_R_kindsWrong 30 = .ok (.iconst 0, 1) := by decide +kernel
theorem dc_R_kindsWrong_31 : decode bb_R_kindsWrong 31 = .ok (.istore_n 3, 1) := by decide +kernel
theorem dc_R_kindsWrong_32 : decode bb_R_kindsWrong 32 = .ok (.iload_n 3, 1) := by decide +kernel
theorem dc_R_kindsWrong_33 : decode bb_R_kindsWrong 33 = .ok (.aload_n 0, 1) := by decide +kernel
theorem dc_R_kindsWrong_34 : decode bb_R_kindsWrong 34 = .ok (.getfield 64, 3) := by decide +kernel
theorem dc_R_kindsWrong_37 : decode bb_R_kindsWrong 37 = .ok (.if_icmp .ge 166, 3) := by decide +kernel
theorem dc_R_kindsWrong_40 : decode bb_R_kindsWrong 40 = .ok (.aload_n 0, 1) := by decide +kernel
theorem dc_R_kindsWrong_41 : decode bb_R_kindsWrong 41 = .ok (.getfield 25, 3) := by decide +kernel
theorem dc_R_kindsWrong_44 : decode bb_R_kindsWrong 44 = .ok (.iload_n 3, 1) := by decide +kernel
theorem dc_R_kindsWrong_45 : decode bb_R_kindsWrong 45 = .ok (.iaload, 1) := by decide +kernel
theorem dc_R_kindsWrong_46 : decode bb_R_kindsWrong 46 = .ok (.ifCond .ne 22, 3) := by decide +kernel
theorem dc_R_kindsWrong_49 : decode bb_R_kindsWrong 49 = .ok (.aload_n 0, 1) := by decide +kernel
theorem dc_R_kindsWrong_50 : decode bb_R_kindsWrong 50 = .ok (.getfield 19, 3) := by decide +kernel
theorem dc_R_kindsWrong_53 : decode bb_R_kindsWrong 53 = .ok (.iload_n 3, 1) := by decide +kernel
theorem dc_R_kindsWrong_54 : decode bb_R_kindsWrong 54 = .ok (.iaload, 1) := by decide +kernel
theorem dc_R_kindsWrong_55 : decode bb_R_kindsWrong 55 = .ok (.bipush 77, 2) := by decide +kernel
theorem dc_R_kindsWrong_57 : decode bb_R_kindsWrong 57 = .ok (.if_icmp .ne 11, 3) := by decide +kernel
theorem dc_R_kindsWrong_60 : decode bb_R_kindsWrong 60 = .ok (.iinc 1 1, 3) := by decide +kernel
theorem dc_R_kindsWrong_63 : decode bb_R_kindsWrong 63 = .ok (.aload_n 0, 1) := by decide +kernel
theorem dc_R_kindsWrong_64 : decode bb_R_kindsWrong 64 = .ok (.iload_n 3, 1) := by decide +kernel
theorem dc_R_kindsWrong_65 : decode bb_R_kindsWrong 65 = .ok (.putfield 96, 3) := by decide +kernel
theorem dc_R_kindsWrong_68 : decode bb_R_kindsWrong 68 = .ok (.aload_n 0, 1) := by decide +kernel
theorem dc_R_kindsWrong_69 : decode bb_R_kindsWrong 69 = .ok (.getfield 25, 3) := by decide +kernel
theorem dc_R_kindsWrong_72 : decode bb_R_kindsWrong 72 = .ok (.iload_n 3, 1) := by decide +kernel
theorem dc_R_kindsWrong_73 : decode bb_R_kindsWrong 73 = .ok (.iaload, 1) := by decide +kernel
theorem dc_R_kindsWrong_74 : decode bb_R_kindsWrong 74 = .ok (.iconst 1, 1) := by decide +kernel
theorem dc_R_kindsWrong_75 : decode bb_R_kindsWrong 75 = .ok (.if_icmp .ne 42, 3) := by decide +kernel
theorem dc_R_kindsWrong_78 : decode bb_R_kindsWrong 78 = .ok (.aload_n 0, 1) := by decide +kernel
theorem dc_R_kindsWrong_79 : decode bb_R_kindsWrong 79 = .ok (.getfield 19, 3) := by decide +kernel
theorem dc_R_kindsWrong_82 : decode bb_R_kindsWrong 82 = .ok (.iload_n 3, 1) := by decide +kernel
theorem dc_R_kindsWrong_83 : decode bb_R_kindsWrong 83 = .ok (.iaload, 1) := by decide +kernel
theorem dc_R_kindsWrong_84 : decode bb_R_kindsWrong 84 = .ok (.bipush 84, 2) := by decide +kernel
theorem dc_R_kindsWrong_86 : decode bb_R_kindsWrong 86 = .ok (.if_icmp .ne 31, 3) := by decide +kernel
theorem dc_R_kindsWrong_89 : decode bb_R_kindsWrong 89 = .ok (.aload_n 0, 1) := by decide +kernel
theorem dc_R_kindsWrong_90 : decode bb_R_kindsWrong 90 = .ok (.getfield 83, 3) := by decide +kernel
theorem dc_R_kindsWrong_93 : decode bb_R_kindsWrong 93 = .ok (.iconst 2, 1) := by decide +kernel
theorem dc_R_kindsWrong_94 : decode bb_R_kindsWrong 94 = .ok (.if_icmp .ge 13, 3) := by decide +kernel
theorem dc_R_kindsWrong_97 : decode bb_R_kindsWrong 97 = .ok (.aload_n 0, 1) := by decide +kernel
theorem dc_R_kindsWrong_98 : decode bb_R_kindsWrong 98 = .ok (.getfield 37, 3) := by decide +kernel
theorem dc_R_kindsWrong_101 : decode bb_R_kindsWrong 101 = .ok (.aload_n 0, 1) := by decide +kernel
theorem dc_R_kindsWrong_102 : decode bb_R_kindsWrong 102 = .ok (.getfield 83, 3) := by decide +kernel
theorem dc_R_kindsWrong_105 : decode bb_R_kindsWrong 105 = .ok (.iload_n 3, 1) := by decide +kernel
theorem dc_R_kindsWrong_106 : decode bb_R_kindsWrong 106 = .ok (.iastore, 1) := by decide +kernel
theorem dc_R_kindsWrong_107 : decode bb_R_kindsWrong 107 = .ok (.aload_n 0, 1) := by decide +kernel
theorem dc_R_kindsWrong_108 : decode bb_R_kindsWrong 108 = .ok (.dup, 1) := by decide +kernel
theorem dc_R_kindsWrong_109 : decode bb_R_kindsWrong 109 = .ok (.getfield 83, 3) := by decide +kernel
theorem dc_R_kindsWrong_112 : decode bb_R_kindsWrong 112 = .ok (.iconst 1, 1) := by decide +kernel
theorem dc_R_kindsWrong_113 : decode bb_R_kindsWrong 113 = .ok (.iadd, 1) := by decide +kernel
theorem dc_R_kindsWrong_114 : decode bb_R_kindsWrong 114 = .ok (.putfield 83, 3) := by decide +kernel
theorem dc_R_kindsWrong_117 : decode bb_R_kindsWrong 117 = .ok (.aload_n 0, 1) := by decide +kernel
theorem dc_R_kindsWrong_118 : decode bb_R_kindsWrong 118 = .ok (.getfield 25, 3) := by decide +kernel
theorem dc_R_kindsWrong_121 : decode bb_R_kindsWrong 121 = .ok (.iload_n 3, 1) := by decide +kernel
theorem dc_R_kindsWrong_122 : decode bb_R_kindsWrong 122 = .ok (.iaload, 1) := by decide +kernel
theorem dc_R_kindsWrong_123 : decode bb_R_kindsWrong 123 = .ok (.iconst 2, 1) := by decide +kernel
theorem dc_R_kindsWrong_124 : decode bb_R_kindsWrong 124 = .ok (.if_icmp .ne 15, 3) := by decide +kernel
theorem dc_R_kindsWrong_127 : decode bb_R_kindsWrong 127 = .ok (.aload_n 0, 1) := by decide +kernel
theorem dc_R_kindsWrong_128 : decode bb_R_kindsWrong 128 = .ok (.getfield 19, 3) := by decide +kernel
theorem dc_R_kindsWrong_131 : decode bb_R_kindsWrong 131 = .ok (.iload_n 3, 1) := by decide +kernel
theorem dc_R_kindsWrong_132 : decode bb_R_kindsWrong 132 = .ok (.iaload, 1) := by decide +kernel
theorem dc_R_kindsWrong_133 : decode bb_R_kindsWrong 133 = .ok (.invokestatic 99, 3) := by decide +kernel
theorem dc_R_kindsWrong_136 : decode bb_R_kindsWrong 136 = .ok (.goto 4, 3) := by decide +kernel
theorem dc_R_kindsWrong_139 : decode bb_R_kindsWrong 139 = .ok (.iconst (-1), 1) := by decide +kernel
theorem dc_R_kindsWrong_140 : decode bb_R_kindsWrong 140 = .ok (.istore 4, 2) := by decide +kernel
theorem dc_R_kindsWrong_142 : decode bb_R_kindsWrong 142 = .ok (.iload 4, 2) := by decide +kernel
theorem dc_R_kindsWrong_144 : decode bb_R_kindsWrong 144 = .ok (.ifCond .lt 53, 3) := by decide +kernel
theorem dc_R_kindsWrong_147 : decode bb_R_kindsWrong 147 = .ok (.aload_n 0, 1) := by decide +kernel
theorem dc_R_kindsWrong_148 : decode bb_R_kindsWrong 148 = .ok (.getfield 83, 3) := by decide +kernel
theorem dc_R_kindsWrong_151 : decode bb_R_kindsWrong 151 = .ok (.iconst 2, 1) := by decide +kernel
theorem dc_R_kindsWrong_152 : decode bb_R_kindsWrong 152 = .ok (.if_icmp .gt 45, 3) := by decide +kernel
theorem dc_R_kindsWrong_155 : decode bb_R_kindsWrong 155 = .ok (.bipush 8, 2) := by decide +kernel
theorem dc_R_kindsWrong_157 : decode bb_R_kindsWrong 157 = .ok (.aload_n 0, 1) := by decide +kernel
theorem dc_R_kindsWrong_158 : decode bb_R_kindsWrong 158 = .ok (.getfield 83, 3) := by decide +kernel
theorem dc_R_kindsWrong_161 : decode bb_R_kindsWrong 161 = .ok (.iconst 1, 1) := by decide +kernel
theorem dc_R_kindsWrong_162 : decode bb_R_kindsWrong 162 = .ok (.isub, 1) := by decide +kernel
theorem dc_R_kindsWrong_163 : decode bb_R_kindsWrong 163 = .ok (.imul, 1) := by decide +kernel
theorem dc_R_kindsWrong_164 : decode bb_R_kindsWrong 164 = .ok (.iload 4, 2) := by decide +kernel
theorem dc_R_kindsWrong_166 : decode bb_R_kindsWrong 166 = .ok (.iadd, 1) := by decide +kernel
theorem dc_R_kindsWrong_167 : decode bb_R_kindsWrong 167 = .ok (.istore 5, 2) := by decide +kernel
theorem dc_R_kindsWrong_169 : decode bb_R_kindsWrong 169 = .ok (.iload_n 2, 1) := by decide +kernel
theorem dc_R_kindsWrong_170 : decode bb_R_kindsWrong 170 = .ok (.ifCond .ne 13, 3) := by decide +kernel
theorem dc_R_kindsWrong_173 : decode bb_R_kindsWrong 173 = .ok (.aload_n 0, 1) := by decide +kernel
theorem dc_R_kindsWrong_174 : decode bb_R_kindsWrong 174 = .ok (.getfield 40, 3) := by decide +kernel
theorem dc_R_kindsWrong_177 : decode bb_R_kindsWrong 177 = .ok (.iload 5, 2) := by decide +kernel
theorem dc_R_kindsWrong_179 : decode bb_R_kindsWrong 179 = .ok (.iaload, 1) := by decide +kernel
theorem dc_R_kindsWrong_180 : decode bb_R_kindsWrong 180 = .ok (.ifCond .lt 7, 3) := by decide +kernel
theorem dc_R_kindsWrong_183 : decode bb_R_kindsWrong 183 = .ok (.iconst 1, 1) := by decide +kernel
theorem dc_R_kindsWrong_184 : decode bb_R_kindsWrong 184 = .ok (.goto 4, 3) := by decide +kernel
theorem dc_R_kindsWrong_187 : decode bb_R_kindsWrong 187 = .ok (.iconst 0, 1) := by decide +kernel
theorem dc_R_kindsWrong_188 : decode bb_R_kindsWrong 188 = .ok (.istore_n 2, 1) := by decide +kernel
theorem dc_R_kindsWrong_189 : decode bb_R_kindsWrong 189 = .ok (.aload_n 0, 1) := by decide +kernel
theorem dc_R_kindsWrong_190 : decode bb_R_kindsWrong 190 = .ok (.getfield 40, 3) := by decide +kernel
theorem dc_R_kindsWrong_193 : decode bb_R_kindsWrong 193 = .ok (.iload 5, 2) := by decide +kernel
theorem dc_R_kindsWrong_195 : decode bb_R_kindsWrong 195 = .ok (.iload_n 3, 1) := by decide +kernel
theorem dc_R_kindsWrong_196 : decode bb_R_kindsWrong 196 = .ok (.iastore, 1) := by decide +kernel
theorem dc_R_kindsWrong_197 : decode bb_R_kindsWrong 197 = .ok (.iinc 3 1, 3) := by decide +kernel
theorem dc_R_kindsWrong_200 : decode bb_R_kindsWrong 200 = .ok (.goto (-168), 3) := by decide +kernel
theorem dc_R_kindsWrong_203 : decode bb_R_kindsWrong 203 = .ok (.iload_n 1, 1) := by decide +kernel
theorem dc_R_kindsWrong_204 : decode bb_R_kindsWrong 204 = .ok (.iconst 1, 1) := by decide +kernel
theorem dc_R_kindsWrong_205 : decode bb_R_kindsWrong 205 = .ok (.if_icmp .ne 19, 3) := by decide +kernel
theorem dc_R_kindsWrong_208 : decode bb_R_kindsWrong 208 = .ok (.aload_n 0, 1) := by decide +kernel
theorem dc_R_kindsWrong_209 : decode bb_R_kindsWrong 209 = .ok (.getfield 83, 3) := by decide +kernel
theorem dc_R_kindsWrong_212 : decode bb_R_kindsWrong 212 = .ok (.iconst 1, 1) := by decide +kernel
theorem dc_R_kindsWrong_213 : decode bb_R_kindsWrong 213 = .ok (.if_icmp .lt 11, 3) := by decide +kernel
theorem dc_R_kindsWrong_216 : decode bb_R_kindsWrong 216 = .ok (.aload_n 0, 1) := by decide +kernel
theorem dc_R_kindsWrong_217 : decode bb_R_kindsWrong 217 = .ok (.getfield 83, 3) := by decide +kernel
theorem dc_R_kindsWrong_220 : decode bb_R_kindsWrong 220 = .ok (.iconst 2, 1) := by decide +kernel
theorem dc_R_kindsWrong_221 : decode bb_R_kindsWrong 221 = .ok (.if_icmp .le 5, 3) := by decide +kernel
theorem dc_R_kindsWrong_224 : decode bb_R_kindsWrong 224 = .ok (.iconst 1, 1) := by decide +kernel
theorem dc_R_kindsWrong_225 : decode bb_R_kindsWrong 225 = .ok (.ireturn, 1) := by decide +kernel
theorem dc_R_kindsWrong_226 : decode bb_R_kindsWrong 226 = .ok (.iconst 0, 1) := by decide +kernel
theorem dc_R_kindsWrong_227 : decode bb_R_kindsWrong 227 = .ok (.istore_n 3, 1) := by decide +kernel
theorem dc_R_kindsWrong_228 : decode bb_R_kindsWrong 228 = .ok (.iload_n 3, 1) := by decide +kernel
theorem dc_R_kindsWrong_229 : decode bb_R_kindsWrong 229 = .ok (.aload_n 0, 1) := by decide +kernel
theorem dc_R_kindsWrong_230 : decode bb_R_kindsWrong 230 = .ok (.getfield 83, 3) := by decide +kernel
theorem dc_R_kindsWrong_233 : decode bb_R_kindsWrong 233 = .ok (.if_icmp .ge 110, 3) := by decide +kernel
theorem dc_R_kindsWrong_236 : decode bb_R_kindsWrong 236 = .ok (.aload_n 0, 1) := by decide +kernel
theorem dc_R_kindsWrong_237 : decode bb_R_kindsWrong 237 = .ok (.getfield 40, 3) := by decide +kernel
theorem dc_R_kindsWrong_240 : decode bb_R_kindsWrong 240 = .ok (.bipush 8, 2) := by decide +kernel
theorem dc_R_kindsWrong_242 : decode bb_R_kindsWrong 242 = .ok (.iload_n 3, 1) := by decide +kernel
theorem dc_R_kindsWrong_243 : decode bb_R_kindsWrong 243 = .ok (.imul, 1) := by decide +kernel
theorem dc_R_kindsWrong_244 : decode bb_R_kindsWrong 244 = .ok (.iconst 4, 1) := by decide +kernel
theorem dc_R_kindsWrong_245 : decode bb_R_kindsWrong 245 = .ok (.iadd, 1) := by decide +kernel
theorem dc_R_kindsWrong_246 : decode bb_R_kindsWrong 246 = .ok (.iaload, 1) := by decide +kernel
theorem dc_R_kindsWrong_247 : decode bb_R_kindsWrong 247 = .ok (.ifCond .lt 7, 3) := by decide +kernel
theorem dc_R_kindsWrong_250 : decode bb_R_kindsWrong 250 = .ok (.iconst 1, 1) := by decide +kernel
theorem dc_R_kindsWrong_251 : decode bb_R_kindsWrong 251 = .ok (.goto 4, 3) := by decide +kernel
theorem dc_R_kindsWrong_254 : decode bb_R_kindsWrong 254 = .ok (.iconst 0, 1) := by decide +kernel
theorem dc_R_kindsWrong_255 : decode bb_R_kindsWrong 255 = .ok (.istore 4, 2) := by decide +kernel
theorem dc_R_kindsWrong_257 : decode bb_R_kindsWrong 257 = .ok (.aload_n 0, 1) := by decide +kernel
theorem dc_R_kindsWrong_258 : decode bb_R_kindsWrong 258 = .ok (.getfield 40, 3) := by decide +kernel
theorem dc_R_kindsWrong_261 : decode bb_R_kindsWrong 261 = .ok (.bipush 8, 2) := by decide +kernel
theorem dc_R_kindsWrong_263 : decode bb_R_kindsWrong 263 = .ok (.iload_n 3, 1) := by decide +kernel
theorem dc_R_kindsWrong_264 : decode bb_R_kindsWrong 264 = .ok (.imul, 1) := by decide +kernel
theorem dc_R_kindsWrong_265 : decode bb_R_kindsWrong 265 = .ok (.iconst 5, 1) := by decide +kernel
theorem dc_R_kindsWrong_266 : decode bb_R_kindsWrong 266 = .ok (.iadd, 1) := by decide +kernel
theorem dc_R_kindsWrong_267 : decode bb_R_kindsWrong 267 = .ok (.iaload, 1) := by decide +kernel
theorem dc_R_kindsWrong_268 : decode bb_R_kindsWrong 268 = .ok (.ifCond .lt 7, 3) := by decide +kernel
theorem dc_R_kindsWrong_271 : decode bb_R_kindsWrong 271 = .ok (.iconst 1, 1) := by decide +kernel
theorem dc_R_kindsWrong_272 : decode bb_R_kindsWrong 272 = .ok (.goto 4, 3) := by decide +kernel
theorem dc_R_kindsWrong_275 : decode bb_R_kindsWrong 275 = .ok (.iconst 0, 1) := by decide +kernel
theorem dc_R_kindsWrong_276 : decode bb_R_kindsWrong 276 = .ok (.istore 5, 2) := by decide +kernel
theorem dc_R_kindsWrong_278 : decode bb_R_kindsWrong 278 = .ok (.iload_n 2, 1) := by decide +kernel
theorem dc_R_kindsWrong_279 : decode bb_R_kindsWrong 279 = .ok (.ifCond .ne 52, 3) := by decide +kernel
theorem dc_R_kindsWrong_282 : decode bb_R_kindsWrong 282 = .ok (.iload 4, 2) := by decide +kernel
theorem dc_R_kindsWrong_284 : decode bb_R_kindsWrong 284 = .ok (.iload 5, 2) := by decide +kernel
theorem dc_R_kindsWrong_286 : decode bb_R_kindsWrong 286 = .ok (.if_icmp .eq 45, 3) := by decide +kernel
theorem dc_R_kindsWrong_289 : decode bb_R_kindsWrong 289 = .ok (.aload_n 0, 1) := by decide +kernel
theorem dc_R_kindsWrong_290 : decode bb_R_kindsWrong 290 = .ok (.getfield 40, 3) := by decide +kernel
theorem dc_R_kindsWrong_293 : decode bb_R_kindsWrong 293 = .ok (.bipush 8, 2) := by decide +kernel
theorem dc_R_kindsWrong_295 : decode bb_R_kindsWrong 295 = .ok (.iload_n 3, 1) := by decide +kernel
theorem dc_R_kindsWrong_296 : decode bb_R_kindsWrong 296 = .ok (.imul, 1) := by decide +kernel
theorem dc_R_kindsWrong_297 : decode bb_R_kindsWrong 297 = .ok (.iconst 0, 1) := by decide +kernel
theorem dc_R_kindsWrong_298 : decode bb_R_kindsWrong 298 = .ok (.iadd, 1) := by decide +kernel
theorem dc_R_kindsWrong_299 : decode bb_R_kindsWrong 299 = .ok (.iaload, 1) := by decide +kernel
theorem dc_R_kindsWrong_300 : decode bb_R_kindsWrong 300 = .ok (.ifCond .lt 31, 3) := by decide +kernel
theorem dc_R_kindsWrong_303 : decode bb_R_kindsWrong 303 = .ok (.aload_n 0, 1) := by decide +kernel
theorem dc_R_kindsWrong_304 : decode bb_R_kindsWrong 304 = .ok (.getfield 40, 3) := by decide +kernel
theorem dc_R_kindsWrong_307 : decode bb_R_kindsWrong 307 = .ok (.bipush 8, 2) := by decide +kernel
theorem dc_R_kindsWrong_309 : decode bb_R_kindsWrong 309 = .ok (.iload_n 3, 1) := by decide +kernel
theorem dc_R_kindsWrong_310 : decode bb_R_kindsWrong 310 = .ok (.imul, 1) := by decide +kernel
theorem dc_R_kindsWrong_311 : decode bb_R_kindsWrong 311 = .ok (.iconst 2, 1) := by decide +kernel
theorem dc_R_kindsWrong_312 : decode bb_R_kindsWrong 312 = .ok (.iadd, 1) := by decide +kernel
theorem dc_R_kindsWrong_313 : decode bb_R_kindsWrong 313 = .ok (.iaload, 1) := by decide +kernel
theorem dc_R_kindsWrong_314 : decode bb_R_kindsWrong 314 = .ok (.ifCond .lt 17, 3) := by decide +kernel
theorem dc_R_kindsWrong_317 : decode bb_R_kindsWrong 317 = .ok (.aload_n 0, 1) := by decide +kernel
theorem dc_R_kindsWrong_318 : decode bb_R_kindsWrong 318 = .ok (.getfield 40, 3) := by decide +kernel
theorem dc_R_kindsWrong_321 : decode bb_R_kindsWrong 321 = .ok (.bipush 8, 2) := by decide +kernel
theorem dc_R_kindsWrong_323 : decode bb_R_kindsWrong 323 = .ok (.iload_n 3, 1) := by decide +kernel
theorem dc_R_kindsWrong_324 : decode bb_R_kindsWrong 324 = .ok (.imul, 1) := by decide +kernel
theorem dc_R_kindsWrong_325 : decode bb_R_kindsWrong 325 = .ok (.iconst 3, 1) := by decide +kernel
theorem dc_R_kindsWrong_326 : decode bb_R_kindsWrong 326 = .ok (.iadd, 1) := by decide +kernel
theorem dc_R_kindsWrong_327 : decode bb_R_kindsWrong 327 = .ok (.iaload, 1) := by decide +kernel
theorem dc_R_kindsWrong_328 : decode bb_R_kindsWrong 328 = .ok (.ifCond .ge 7, 3) := by decide +kernel
theorem dc_R_kindsWrong_331 : decode bb_R_kindsWrong 331 = .ok (.iconst 1, 1) := by decide +kernel
theorem dc_R_kindsWrong_332 : decode bb_R_kindsWrong 332 = .ok (.goto 4, 3) := by decide +kernel
theorem dc_R_kindsWrong_335 : decode bb_R_kindsWrong 335 = .ok (.iconst 0, 1) := by decide +kernel
theorem dc_R_kindsWrong_336 : decode bb_R_kindsWrong 336 = .ok (.istore_n 2, 1) := by decide +kernel
theorem dc_R_kindsWrong_337 : decode bb_R_kindsWrong 337 = .ok (.iinc 3 1, 3) := by decide +kernel
theorem dc_R_kindsWrong_340 : decode bb_R_kindsWrong 340 = .ok (.goto (-112), 3) := by decide +kernel
theorem dc_R_kindsWrong_343 : decode bb_R_kindsWrong 343 = .ok (.iload_n 2, 1) := by decide +kernel
theorem dc_R_kindsWrong_344 : decode bb_R_kindsWrong 344 = .ok (.ireturn, 1) := by decide +kernel
theorem dc_R_kindOf_0 : decode bb_R_kindOf 0 = .ok (.iload_n 0, 1) := by decide +kernel
theorem dc_R_kindOf_1 : decode bb_R_kindOf 1 = .ok (.lookupswitch 93 #[(79, 85), (99, 77), (101, 90), (107, 79), (111, 83), (115, 75), (121, 87), (122, 81)], 75) := by decide +kernel
theorem dc_R_kindOf_76 : decode bb_R_kindOf 76 = .ok (.iconst 0, 1) := by decide +kernel
theorem dc_R_kindOf_77 : decode bb_R_kindOf 77 = .ok (.ireturn, 1) := by decide +kernel
theorem dc_R_kindOf_78 : decode bb_R_kindOf 78 = .ok (.iconst 1, 1) := by decide +kernel
theorem dc_R_kindOf_79 : decode bb_R_kindOf 79 = .ok (.ireturn, 1) := by decide +kernel
theorem dc_R_kindOf_80 : decode bb_R_kindOf 80 = .ok (.iconst 2, 1) := by decide +kernel
theorem dc_R_kindOf_81 : decode bb_R_kindOf 81 = .ok (.ireturn, 1) := by decide +kernel
theorem dc_R_kindOf_82 : decode bb_R_kindOf 82 = .ok (.iconst 3, 1) := by decide +kernel
theorem dc_R_kindOf_83 : decode bb_R_kindOf 83 = .ok (.ireturn, 1) := by decide +kernel
theorem dc_R_kindOf_84 : decode bb_R_kindOf 84 = .ok (.iconst 4, 1) := by decide +kernel
theorem dc_R_kindOf_85 : decode bb_R_kindOf 85 = .ok (.ireturn, 1) := by decide +kernel
theorem dc_R_kindOf_86 : decode bb_R_kindOf 86 = .ok (.iconst 5, 1) := by decide +kernel
theorem dc_R_kindOf_87 : decode bb_R_kindOf 87 = .ok (.ireturn, 1) := by decide +kernel
theorem dc_R_kindOf_88 : decode bb_R_kindOf 88 = .ok (.bipush 6, 2) := by decide +kernel
theorem dc_R_kindOf_90 : decode bb_R_kindOf 90 = .ok (.ireturn, 1) := by decide +kernel
theorem dc_R_kindOf_91 : decode bb_R_kindOf 91 = .ok (.bipush 7, 2) := by decide +kernel
theorem dc_R_kindOf_93 : decode bb_R_kindOf 93 = .ok (.ireturn, 1) := by decide +kernel
theorem dc_R_kindOf_94 : decode bb_R_kindOf 94 = .ok (.iconst (-1), 1) := by decide +kernel
theorem dc_R_kindOf_95 : decode bb_R_kindOf 95 = .ok (.ireturn, 1) := by decide +kernel
theorem dc_R_rowsWrong_0 : decode bb_R_rowsWrong 0 = .ok (.aload_n 0, 1) := by decide +kernel
theorem dc_R_rowsWrong_1 : decode bb_R_rowsWrong 1 = .ok (.iload_n 1, 1) := by decide +kernel
theorem dc_R_rowsWrong_2 : decode bb_R_rowsWrong 2 = .ok (.invokevirtual 103, 3) := by decide +kernel
theorem dc_R_rowsWrong_5 : decode bb_R_rowsWrong 5 = .ok (.istore_n 3, 1) := by decide +kernel
theorem dc_R_rowsWrong_6 : decode bb_R_rowsWrong 6 = .ok (.iload_n 2, 1) := by decide +kernel
theorem dc_R_rowsWrong_7 : decode bb_R_rowsWrong 7 = .ok (.iconst 3, 1) := by decide +kernel
theorem dc_R_rowsWrong_8 : decode bb_R_rowsWrong 8 = .ok (.if_icmp .ne 39, 3) := by decide +kernel
theorem dc_R_rowsWrong_11 : decode bb_R_rowsWrong 11 = .ok (.iload_n 3, 1) := by decide +kernel
theorem dc_R_rowsWrong_12 : decode bb_R_rowsWrong 12 = .ok (.iconst 2, 1) := by decide +kernel
theorem dc_R_rowsWrong_13 : decode bb_R_rowsWrong 13 = .ok (.if_icmp .lt 28, 3) := by decide +kernel
theorem dc_R_rowsWrong_16 : decode bb_R_rowsWrong 16 = .ok (.iload_n 3, 1) := by decide +kernel
theorem dc_R_rowsWrong_17 : decode bb_R_rowsWrong 17 = .ok (.aload_n 0, 1) := by decide +kernel
theorem dc_R_rowsWrong_18 : decode bb_R_rowsWrong 18 = .ok (.iload_n 1, 1) := by decide +kernel
theorem dc_R_rowsWrong_19 : decode bb_R_rowsWrong 19 = .ok (.iconst 0, 1) := by decide +kernel
theorem dc_R_rowsWrong_20 : decode bb_R_rowsWrong 20 = .ok (.invokevirtual 106, 3) := by decide +kernel
theorem dc_R_rowsWrong_23 : decode bb_R_rowsWrong 23 = .ok (.ifCond .ne 14, 3) := by decide +kernel
theorem dc_R_rowsWrong_26 : decode bb_R_rowsWrong 26 = .ok (.iconst 2, 1) := by decide +kernel
theorem dc_R_rowsWrong_27 : decode bb_R_rowsWrong 27 = .ok (.aload_n 0, 1) := by decide +kernel
theorem dc_R_rowsWrong_28 : decode bb_R_rowsWrong 28 = .ok (.iload_n 1, 1) := by decide +kernel
theorem dc_R_rowsWrong_29 : decode bb_R_rowsWrong 29 = .ok (.iconst 1, 1) := by decide +kernel
theorem dc_R_rowsWrong_30 : decode bb_R_rowsWrong 30 = .ok (.invokevirtual 106, 3) := by decide +kernel
theorem dc_R_rowsWrong_33 : decode bb_R_rowsWrong 33 = .ok (.iadd, 1) := by decide +kernel
theorem dc_R_rowsWrong_34 : decode bb_R_rowsWrong 34 = .ok (.goto 4, 3) := by decide +kernel
theorem dc_R_rowsWrong_37 : decode bb_R_rowsWrong 37 = .ok (.iconst 2, 1) := by decide +kernel
theorem dc_R_rowsWrong_38 : decode bb_R_rowsWrong 38 = .ok (.if_icmp .eq 7, 3) := by decide +kernel
theorem dc_R_rowsWrong_41 : decode bb_R_rowsWrong 41 = .ok (.iconst 1, 1) := by decide +kernel
theorem dc_R_rowsWrong_42 : decode bb_R_rowsWrong 42 = .ok (.goto 4, 3) := by decide +kernel
theorem dc_R_rowsWrong_45 : decode bb_R_rowsWrong 45 = .ok (.iconst 0, 1) := by decide +kernel
theorem dc_R_rowsWrong_46 : decode bb_R_rowsWrong 46 = .ok (.ireturn, 1) := by decide +kernel
theorem dc_R_rowsWrong_47 : decode bb_R_rowsWrong 47 = .ok (.iload_n 2, 1) := by decide +kernel
theorem dc_R_rowsWrong_48 : decode bb_R_rowsWrong 48 = .ok (.iconst 2, 1) := by decide +kernel
theorem dc_R_rowsWrong_49 : decode bb_R_rowsWrong 49 = .ok (.if_icmp .ne 7, 3) := by decide +kernel
theorem dc_R_rowsWrong_52 : decode bb_R_rowsWrong 52 = .ok (.iconst 3, 1) := by decide +kernel
theorem dc_R_rowsWrong_53 : decode bb_R_rowsWrong 53 = .ok (.goto 19, 3) := by decide +kernel
theorem dc_R_rowsWrong_56 : decode bb_R_rowsWrong 56 = .ok (.iload_n 2, 1) := by decide +kernel
theorem dc_R_rowsWrong_57 : decode bb_R_rowsWrong 57 = .ok (.iconst 4, 1) := by decide +kernel
theorem dc_R_rowsWrong_58 : decode bb_R_rowsWrong 58 = .ok (.if_icmp .eq 9, 3) := by decide +kernel
theorem dc_R_rowsWrong_61 : decode bb_R_rowsWrong 61 = .ok (.iload_n 2, 1) := by decide +kernel
theorem dc_R_rowsWrong_62 : decode bb_R_rowsWrong 62 = .ok (.bipush 6, 2) := by decide +kernel
theorem dc_R_rowsWrong_64 : decode bb_R_rowsWrong 64 = .ok (.if_icmp .ne 7, 3) := by decide +kernel
theorem dc_R_rowsWrong_67 : decode bb_R_rowsWrong 67 = .ok (.iconst 1, 1) := by decide +kernel
theorem dc_R_rowsWrong_68 : decode bb_R_rowsWrong 68 = .ok (.goto 4, 3) := by decide +kernel
theorem dc_R_rowsWrong_71 : decode bb_R_rowsWrong 71 = .ok (.iconst 2, 1) := by decide +kernel
theorem dc_R_rowsWrong_72 : decode bb_R_rowsWrong 72 = .ok (.istore 4, 2) := by decide +kernel
theorem dc_R_rowsWrong_74 : decode bb_R_rowsWrong 74 = .ok (.iload_n 3, 1) := by decide +kernel
theorem dc_R_rowsWrong_75 : decode bb_R_rowsWrong 75 = .ok (.iconst 1, 1) := by decide +kernel
theorem dc_R_rowsWrong_76 : decode bb_R_rowsWrong 76 = .ok (.if_icmp .lt 18, 3) := by decide +kernel
theorem dc_R_rowsWrong_79 : decode bb_R_rowsWrong 79 = .ok (.iload_n 3, 1) := by decide +kernel
theorem dc_R_rowsWrong_80 : decode bb_R_rowsWrong 80 = .ok (.iconst 1, 1) := by decide +kernel
theorem dc_R_rowsWrong_81 : decode bb_R_rowsWrong 81 = .ok (.iload 4, 2) := by decide +kernel
theorem dc_R_rowsWrong_83 : decode bb_R_rowsWrong 83 = .ok (.aload_n 0, 1) := by decide +kernel
theorem dc_R_rowsWrong_84 : decode bb_R_rowsWrong 84 = .ok (.iload_n 1, 1) := by decide +kernel
theorem dc_R_rowsWrong_85 : decode bb_R_rowsWrong 85 = .ok (.iconst 0, 1) := by decide +kernel
theorem dc_R_rowsWrong_86 : decode bb_R_rowsWrong 86 = .ok (.invokevirtual 106, 3) := by decide +kernel
theorem dc_R_rowsWrong_89 : decode bb_R_rowsWrong 89 = .ok (.imul, 1) := by decide +kernel
theorem dc_R_rowsWrong_90 : decode bb_R_rowsWrong 90 = .ok (.iadd, 1) := by decide +kernel
theorem dc_R_rowsWrong_91 : decode bb_R_rowsWrong 91 = .ok (.if_icmp .eq 5, 3) := by decide +kernel
theorem dc_R_rowsWrong_94 : decode bb_R_rowsWrong 94 = .ok (.iconst 1, 1) := by decide +kernel
theorem dc_R_rowsWrong_95 : decode bb_R_rowsWrong 95 = .ok (.ireturn, 1) := by decide +kernel
theorem dc_R_rowsWrong_96 : decode bb_R_rowsWrong 96 = .ok (.aload_n 0, 1) := by decide +kernel
theorem dc_R_rowsWrong_97 : decode bb_R_rowsWrong 97 = .ok (.iload_n 1, 1) := by decide +kernel
theorem dc_R_rowsWrong_98 : decode bb_R_rowsWrong 98 = .ok (.iconst 0, 1) := by decide +kernel
theorem dc_R_rowsWrong_99 : decode bb_R_rowsWrong 99 = .ok (.invokevirtual 106, 3) := by decide +kernel
theorem dc_R_rowsWrong_102 : decode bb_R_rowsWrong 102 = .ok (.istore 5, 2) := by decide +kernel
theorem dc_R_rowsWrong_104 : decode bb_R_rowsWrong 104 = .ok (.iconst 0, 1) := by decide +kernel
theorem dc_R_rowsWrong_105 : decode bb_R_rowsWrong 105 = .ok (.istore 6, 2) := by decide +kernel
theorem dc_R_rowsWrong_107 : decode bb_R_rowsWrong 107 = .ok (.iconst 0, 1) := by decide +kernel
theorem dc_R_rowsWrong_108 : decode bb_R_rowsWrong 108 = .ok (.istore 7, 2) := by decide +kernel
theorem dc_R_rowsWrong_110 : decode bb_R_rowsWrong 110 = .ok (.iload 7, 2) := by decide +kernel
theorem dc_R_rowsWrong_112 : decode bb_R_rowsWrong 112 = .ok (.iload 5, 2) := by decide +kernel
theorem dc_R_rowsWrong_114 : decode bb_R_rowsWrong 114 = .ok (.if_icmp .ge 150, 3) := by decide +kernel
theorem dc_R_rowsWrong_117 : decode bb_R_rowsWrong 117 = .ok (.iload_n 2, 1) := by decide +kernel
theorem dc_R_rowsWrong_118 : decode bb_R_rowsWrong 118 = .ok (.iconst 2, 1) := by decide +kernel
theorem dc_R_rowsWrong_119 : decode bb_R_rowsWrong 119 = .ok (.if_icmp .ne 89, 3) := by decide +kernel
theorem dc_R_rowsWrong_122 : decode bb_R_rowsWrong 122 = .ok (.aload_n 0, 1) := by decide +kernel
theorem dc_R_rowsWrong_123 : decode bb_R_rowsWrong 123 = .ok (.iload_n 1, 1) := by decide +kernel
theorem dc_R_rowsWrong_124 : decode bb_R_rowsWrong 124 = .ok (.iconst 1, 1) := by decide +kernel
theorem dc_R_rowsWrong_125 : decode bb_R_rowsWrong 125 = .ok (.iconst 3, 1) := by decide +kernel
theorem dc_R_rowsWrong_126 : decode bb_R_rowsWrong 126 = .ok (.iload 7, 2) := by decide +kernel
theorem dc_R_rowsWrong_128 : decode bb_R_rowsWrong 128 = .ok (.imul, 1) := by decide +kernel
theorem dc_R_rowsWrong_129 : decode bb_R_rowsWrong 129 = .ok (.iadd, 1) := by decide +kernel
theorem dc_R_rowsWrong_130 : decode bb_R_rowsWrong 130 = .ok (.invokevirtual 106, 3) := by decide +kernel
theorem dc_R_rowsWrong_133 : decode bb_R_rowsWrong 133 = .ok (.istore 8, 2) := by decide +kernel
theorem dc_R_rowsWrong_135 : decode bb_R_rowsWrong 135 = .ok (.iload 7, 2) := by decide +kernel
theorem dc_R_rowsWrong_137 : decode bb_R_rowsWrong 137 = .ok (.ifCond .ne 17, 3) := by decide +kernel
theorem dc_R_rowsWrong_140 : decode bb_R_rowsWrong 140 = .ok (.iload 8, 2) := by decide +kernel
theorem dc_R_rowsWrong_142 : decode bb_R_rowsWrong 142 = .ok (.iconst 1, 1) := by decide +kernel
theorem dc_R_rowsWrong_143 : decode bb_R_rowsWrong 143 = .ok (.if_icmp .ne 7, 3) := by decide +kernel
theorem dc_R_rowsWrong_146 : decode bb_R_rowsWrong 146 = .ok (.iconst 1, 1) := by decide +kernel
theorem dc_R_rowsWrong_147 : decode bb_R_rowsWrong 147 = .ok (.goto 28, 3) := by decide +kernel
theorem dc_R_rowsWrong_150 : decode bb_R_rowsWrong 150 = .ok (.iconst 0, 1) := by decide +kernel
theorem dc_R_rowsWrong_151 : decode bb_R_rowsWrong 151 = .ok (.goto 24, 3) := by decide +kernel
theorem dc_R_rowsWrong_154 : decode bb_R_rowsWrong 154 = .ok (.iload 8, 2) := by decide +kernel
theorem dc_R_rowsWrong_156 : decode bb_R_rowsWrong 156 = .ok (.aload_n 0, 1) := by decide +kernel
theorem dc_R_rowsWrong_157 : decode bb_R_rowsWrong 157 = .ok (.iload_n 1, 1) := by decide +kernel
theorem dc_R_rowsWrong_158 : decode bb_R_rowsWrong 158 = .ok (.iconst 3, 1) := by decide +kernel
theorem dc_R_rowsWrong_159 : decode bb_R_rowsWrong 159 = .ok (.iload 7, 2) := by decide +kernel
theorem dc_R_rowsWrong_161 : decode bb_R_rowsWrong 161 = .ok (.imul, 1) := by decide +kernel
theorem dc_R_rowsWrong_162 : decode bb_R_rowsWrong 162 = .ok (.iconst 2, 1) := by decide +kernel
theorem dc_R_rowsWrong_163 : decode bb_R_rowsWrong 163 = .ok (.isub, 1) := by decide +kernel
theorem dc_R_rowsWrong_164 : decode bb_R_rowsWrong 164 = .ok (.invokevirtual 106, 3) := by decide +kernel
theorem dc_R_rowsWrong_167 : decode bb_R_rowsWrong 167 = .ok (.if_icmp .le 7, 3) := by decide +kernel
theorem dc_R_rowsWrong_170 : decode bb_R_rowsWrong 170 = .ok (.iconst 1, 1) := by decide +kernel
theorem dc_R_rowsWrong_171 : decode bb_R_rowsWrong 171 = .ok (.goto 4, 3) := by decide +kernel
theorem dc_R_rowsWrong_174 : decode bb_R_rowsWrong 174 = .ok (.iconst 0, 1) := by decide +kernel
theorem dc_R_rowsWrong_175 : decode bb_R_rowsWrong 175 = .ok (.istore 9, 2) := by decide +kernel
theorem dc_R_rowsWrong_177 : decode bb_R_rowsWrong 177 = .ok (.iload 6, 2) := by decide +kernel
theorem dc_R_rowsWrong_179 : decode bb_R_rowsWrong 179 = .ok (.ifCond .ne 22, 3) := by decide +kernel
theorem dc_R_rowsWrong_182 : decode bb_R_rowsWrong 182 = .ok (.iload 9, 2) := by decide +kernel
theorem dc_R_rowsWrong_184 : decode bb_R_rowsWrong 184 = .ok (.ifCond .eq 17, 3) := by decide +kernel
theorem dc_R_rowsWrong_187 : decode bb_R_rowsWrong 187 = .ok (.aload_n 0, 1) := by decide +kernel
theorem dc_R_rowsWrong_188 : decode bb_R_rowsWrong 188 = .ok (.iload_n 1, 1) := by decide +kernel
theorem dc_R_rowsWrong_189 : decode bb_R_rowsWrong 189 = .ok (.iconst 2, 1) := by decide +kernel
theorem dc_R_rowsWrong_190 : decode bb_R_rowsWrong 190 = .ok (.iconst 3, 1) := by decide +kernel
theorem dc_R_rowsWrong_191 : decode bb_R_rowsWrong 191 = .ok (.iload 7, 2) := by decide +kernel
theorem dc_R_rowsWrong_193 : decode bb_R_rowsWrong 193 = .ok (.imul, 1) := by decide +kernel
theorem dc_R_rowsWrong_194 : decode bb_R_rowsWrong 194 = .ok (.iadd, 1) := by decide +kernel
theorem dc_R_rowsWrong_195 : decode bb_R_rowsWrong 195 = .ok (.invokevirtual 106, 3) := by decide +kernel
theorem dc_R_rowsWrong_198 : decode bb_R_rowsWrong 198 = .ok (.ifCond .ne 7, 3) := by decide +kernel
theorem dc_R_rowsWrong_201 : decode bb_R_rowsWrong 201 = .ok (.iconst 1, 1) := by decide +kernel
theorem dc_R_rowsWrong_202 : decode bb_R_rowsWrong 202 = .ok (.goto 4, 3) := by decide +kernel
theorem dc_R_rowsWrong_205 : decode bb_R_rowsWrong 205 = .ok (.iconst 0, 1) := by decide +kernel
theorem dc_R_rowsWrong_206 : decode bb_R_rowsWrong 206 = .ok (.istore 6, 2) := by decide +kernel
theorem dc_R_rowsWrong_208 : decode bb_R_rowsWrong 208 = .ok (.iload_n 2, 1) := by decide +kernel
theorem dc_R_rowsWrong_209 : decode bb_R_rowsWrong 209 = .ok (.bipush 6, 2) := by decide +kernel
theorem dc_R_rowsWrong_211 : decode bb_R_rowsWrong 211 = .ok (.if_icmp .ne 47, 3) := by decide +kernel
theorem dc_R_rowsWrong_214 : decode bb_R_rowsWrong 214 = .ok (.aload_n 0, 1) := by decide +kernel
theorem dc_R_rowsWrong_215 : decode bb_R_rowsWrong 215 = .ok (.iload_n 1, 1) := by decide +kernel
theorem dc_R_rowsWrong_216 : decode bb_R_rowsWrong 216 = .ok (.iconst 1, 1) := by decide +kernel
theorem dc_R_rowsWrong_217 : decode bb_R_rowsWrong 217 = .ok (.iload 7, 2) := by decide +kernel
theorem dc_R_rowsWrong_219 : decode bb_R_rowsWrong 219 = .ok (.iadd, 1) := by decide +kernel
theorem dc_R_rowsWrong_220 : decode bb_R_rowsWrong 220 = .ok (.invokevirtual 106, 3) := by decide +kernel
theorem dc_R_rowsWrong_223 : decode bb_R_rowsWrong 223 = .ok (.istore 8, 2) := by decide +kernel
theorem dc_R_rowsWrong_225 : decode bb_R_rowsWrong 225 = .ok (.iload 6, 2) := by decide +kernel
theorem dc_R_rowsWrong_227 : decode bb_R_rowsWrong 227 = .ok (.ifCond .ne 24, 3) := by decide +kernel
theorem dc_R_rowsWrong_230 : decode bb_R_rowsWrong 230 = .ok (.iload 8, 2) := by decide +kernel
theorem dc_R_rowsWrong_232 : decode bb_R_rowsWrong 232 = .ok (.iload 7, 2) := by decide +kernel
theorem dc_R_rowsWrong_234 : decode bb_R_rowsWrong 234 = .ok (.ifCond .ne 7, 3) := by decide +kernel
theorem dc_R_rowsWrong_237 : decode bb_R_rowsWrong 237 = .ok (.iconst 0, 1) := by decide +kernel
theorem dc_R_rowsWrong_238 : decode bb_R_rowsWrong 238 = .ok (.goto 10, 3) := by decide +kernel
theorem dc_R_rowsWrong_241 : decode bb_R_rowsWrong 241 = .ok (.aload_n 0, 1) := by decide +kernel
theorem dc_R_rowsWrong_242 : decode bb_R_rowsWrong 242 = .ok (.iload_n 1, 1) := by decide +kernel
theorem dc_R_rowsWrong_243 : decode bb_R_rowsWrong 243 = .ok (.iload 7, 2) := by decide +kernel
theorem dc_R_rowsWrong_245 : decode bb_R_rowsWrong 245 = .ok (.invokevirtual 106, 3) := by decide +kernel
theorem dc_R_rowsWrong_248 : decode bb_R_rowsWrong 248 = .ok (.if_icmp .gt 7, 3) := by decide +kernel
theorem dc_R_rowsWrong_251 : decode bb_R_rowsWrong 251 = .ok (.iconst 1, 1) := by decide +kernel
theorem dc_R_rowsWrong_252 : decode bb_R_rowsWrong 252 = .ok (.goto 4, 3) := by decide +kernel
theorem dc_R_rowsWrong_255 : decode bb_R_rowsWrong 255 = .ok (.iconst 0, 1) := by decide +kernel
theorem dc_R_rowsWrong_256 : decode bb_R_rowsWrong 256 = .ok (.istore 6, 2) := by decide +kernel
theorem dc_R_rowsWrong_258 : decode bb_R_rowsWrong 258 = .ok (.iinc 7 1, 3) := by decide +kernel
theorem dc_R_rowsWrong_261 : decode bb_R_rowsWrong 261 = .ok (.goto (-151), 3) := by decide +kernel
theorem dc_R_rowsWrong_264 : decode bb_R_rowsWrong 264 = .ok (.iload 6, 2) := by decide +kernel
theorem dc_R_rowsWrong_266 : decode bb_R_rowsWrong 266 = .ok (.ireturn, 1) := by decide +kernel
theorem dc_R_payLength_0 : decode bb_R_payLength 0 = .ok (.aload_n 0, 1) := by decide +kernel
theorem dc_R_payLength_1 : decode bb_R_payLength 1 = .ok (.getfield 16, 3) := by decide +kernel
theorem dc_R_payLength_4 : decode bb_R_payLength 4 = .ok (.iload_n 1, 1) := by decide +kernel
theorem dc_R_payLength_5 : decode bb_R_payLength 5 = .ok (.iaload, 1) := by decide +kernel
theorem dc_R_payLength_6 : decode bb_R_payLength 6 = .ok (.aload_n 0, 1) := by decide +kernel
theorem dc_R_payLength_7 : decode bb_R_payLength 7 = .ok (.getfield 22, 3) := by decide +kernel
theorem dc_R_payLength_10 : decode bb_R_payLength 10 = .ok (.iload_n 1, 1) := by decide +kernel
theorem dc_R_payLength_11 : decode bb_R_payLength 11 = .ok (.iaload, 1) := by decide +kernel
theorem dc_R_payLength_12 : decode bb_R_payLength 12 = .ok (.isub, 1) := by decide +kernel
theorem dc_R_payLength_13 : decode bb_R_payLength 13 = .ok (.ireturn, 1) := by decide +kernel
theorem dc_R_pay_0 : decode bb_R_pay 0 = .ok (.aload_n 0, 1) := by decide +kernel
theorem dc_R_pay_1 : decode bb_R_pay 1 = .ok (.getfield 7, 3) := by decide +kernel
theorem dc_R_pay_4 : decode bb_R_pay 4 = .ok (.aload_n 0, 1) := by decide +kernel
theorem dc_R_pay_5 : decode bb_R_pay 5 = .ok (.getfield 13, 3) := by decide +kernel
theorem dc_R_pay_8 : decode bb_R_pay 8 = .ok (.iload_n 1, 1) := by decide +kernel
theorem dc_R_pay_9 : decode bb_R_pay 9 = .ok (.iaload, 1) := by decide +kernel
theorem dc_R_pay_10 : decode bb_R_pay 10 = .ok (.aload_n 0, 1) := by decide +kernel
theorem dc_R_pay_11 : decode bb_R_pay 11 = .ok (.getfield 22, 3) := by decide +kernel
theorem dc_R_pay_14 : decode bb_R_pay 14 = .ok (.iload_n 1, 1) := by decide +kernel
theorem dc_R_pay_15 : decode bb_R_pay 15 = .ok (.iaload, 1) := by decide +kernel
theorem dc_R_pay_16 : decode bb_R_pay 16 = .ok (.iadd, 1) := by decide +kernel
theorem dc_R_pay_17 : decode bb_R_pay 17 = .ok (.iload_n 2, 1) := by decide +kernel
theorem dc_R_pay_18 : decode bb_R_pay 18 = .ok (.iadd, 1) := by decide +kernel
theorem dc_R_pay_19 : decode bb_R_pay 19 = .ok (.iaload, 1) := by decide +kernel
theorem dc_R_pay_20 : decode bb_R_pay 20 = .ok (.ireturn, 1) := by decide +kernel
theorem dc_R_countsWrong_0 : decode bb_R_countsWrong 0 = .ok (.aload_n 0, 1) := by decide +kernel
theorem dc_R_countsWrong_1 : decode bb_R_countsWrong 1 = .ok (.iload_n 1, 1) := by decide +kernel
theorem dc_R_countsWrong_2 : decode bb_R_countsWrong 2 = .ok (.invokevirtual 110, 3) := by decide +kernel
theorem dc_R_countsWrong_5 : decode bb_R_countsWrong 5 = .ok (.istore_n 2, 1) := by decide +kernel
theorem dc_R_countsWrong_6 : decode bb_R_countsWrong 6 = .ok (.aload_n 0, 1) := by decide +kernel
theorem dc_R_countsWrong_7 : decode bb_R_countsWrong 7 = .ok (.getfield 40, 3) := by decide +kernel
theorem dc_R_countsWrong_10 : decode bb_R_countsWrong 10 = .ok (.bipush 8, 2) := by decide +kernel
theorem dc_R_countsWrong_12 : decode bb_R_countsWrong 12 = .ok (.iload_n 1, 1) := by decide +kernel
theorem dc_R_countsWrong_13 : decode bb_R_countsWrong 13 = .ok (.imul, 1) := by decide +kernel
theorem dc_R_countsWrong_14 : decode bb_R_countsWrong 14 = .ok (.iconst 1, 1) := by decide +kernel
theorem dc_R_countsWrong_15 : decode bb_R_countsWrong 15 = .ok (.iadd, 1) := by decide +kernel
theorem dc_R_countsWrong_16 : decode bb_R_countsWrong 16 = .ok (.iaload, 1) := by decide +kernel
theorem dc_R_countsWrong_17 : decode bb_R_countsWrong 17 = .ok (.istore_n 3, 1) := by decide +kernel
theorem dc_R_countsWrong_18 : decode bb_R_countsWrong 18 = .ok (.aload_n 0, 1) := by decide +kernel
theorem dc_R_countsWrong_19 : decode bb_R_countsWrong 19 = .ok (.aload_n 0, 1) := by decide +kernel
theorem dc_R_countsWrong_20 : decode bb_R_countsWrong 20 = .ok (.getfield 40, 3) := by decide +kernel
theorem dc_R_countsWrong_23 : decode bb_R_countsWrong 23 = .ok (.bipush 8, 2) := by decide +kernel
theorem dc_R_countsWrong_25 : decode bb_R_countsWrong 25 = .ok (.iload_n 1, 1) := by decide +kernel
theorem dc_R_countsWrong_26 : decode bb_R_countsWrong 26 = .ok (.imul, 1) := by decide +kernel
theorem dc_R_countsWrong_27 : decode bb_R_countsWrong 27 = .ok (.iconst 0, 1) := by decide +kernel
theorem dc_R_countsWrong_28 : decode bb_R_countsWrong 28 = .ok (.iadd, 1) := by decide +kernel
theorem dc_R_countsWrong_29 : decode bb_R_countsWrong 29 = .ok (.iaload, 1) := by decide +kernel
theorem dc_R_countsWrong_30 : decode bb_R_countsWrong 30 = .ok (.invokevirtual 113, 3) := by decide +kernel
theorem dc_R_countsWrong_33 : decode bb_R_countsWrong 33 = .ok (.iload_n 2, 1) := by decide +kernel
theorem dc_R_countsWrong_34 : decode bb_R_countsWrong 34 = .ok (.if_icmp .ne 16, 3) := by decide +kernel
theorem dc_R_countsWrong_37 : decode bb_R_countsWrong 37 = .ok (.iload_n 3, 1) := by decide +kernel
theorem dc_R_countsWrong_38 : decode bb_R_countsWrong 38 = .ok (.ifCond .lt 14, 3) := by decide +kernel
theorem dc_R_countsWrong_41 : decode bb_R_countsWrong 41 = .ok (.aload_n 0, 1) := by decide +kernel
theorem dc_R_countsWrong_42 : decode bb_R_countsWrong 42 = .ok (.iload_n 3, 1) := by decide +kernel
theorem dc_R_countsWrong_43 : decode bb_R_countsWrong 43 = .ok (.invokevirtual 113, 3) := by decide +kernel
theorem dc_R_countsWrong_46 : decode bb_R_countsWrong 46 = .ok (.iload_n 2, 1) := by decide +kernel
theorem dc_R_countsWrong_47 : decode bb_R_countsWrong 47 = .ok (.if_icmp .eq 5, 3) := by decide +kernel
theorem dc_R_countsWrong_50 : decode bb_R_countsWrong 50 = .ok (.iconst 1, 1) := by decide +kernel
theorem dc_R_countsWrong_51 : decode bb_R_countsWrong 51 = .ok (.ireturn, 1) := by decide +kernel
theorem dc_R_countsWrong_52 : decode bb_R_countsWrong 52 = .ok (.aload_n 0, 1) := by decide +kernel
theorem dc_R_countsWrong_53 : decode bb_R_countsWrong 53 = .ok (.iload_n 1, 1) := by decide +kernel
theorem dc_R_countsWrong_54 : decode bb_R_countsWrong 54 = .ok (.invokevirtual 116, 3) := by decide +kernel
theorem dc_R_countsWrong_57 : decode bb_R_countsWrong 57 = .ok (.istore 4, 2) := by decide +kernel
theorem dc_R_countsWrong_59 : decode bb_R_countsWrong 59 = .ok (.aload_n 0, 1) := by decide +kernel
theorem dc_R_countsWrong_60 : decode bb_R_countsWrong 60 = .ok (.getfield 40, 3) := by decide +kernel
theorem dc_R_countsWrong_63 : decode bb_R_countsWrong 63 = .ok (.bipush 8, 2) := by decide +kernel
theorem dc_R_countsWrong_65 : decode bb_R_countsWrong 65 = .ok (.iload_n 1, 1) := by decide +kernel
theorem dc_R_countsWrong_66 : decode bb_R_countsWrong 66 = .ok (.imul, 1) := by decide +kernel
theorem dc_R_countsWrong_67 : decode bb_R_countsWrong 67 = .ok (.iconst 2, 1) := by decide +kernel
theorem dc_R_countsWrong_68 : decode bb_R_countsWrong 68 = .ok (.iadd, 1) := by decide +kernel
theorem dc_R_countsWrong_69 : decode bb_R_countsWrong 69 = .ok (.iaload, 1) := by decide +kernel
theorem dc_R_countsWrong_70 : decode bb_R_countsWrong 70 = .ok (.istore 5, 2) := by decide +kernel
theorem dc_R_countsWrong_72 : decode bb_R_countsWrong 72 = .ok (.aload_n 0, 1) := by decide +kernel
theorem dc_R_countsWrong_73 : decode bb_R_countsWrong 73 = .ok (.iload 5, 2) := by decide +kernel
theorem dc_R_countsWrong_75 : decode bb_R_countsWrong 75 = .ok (.iconst 0, 1) := by decide +kernel
theorem dc_R_countsWrong_76 : decode bb_R_countsWrong 76 = .ok (.invokevirtual 106, 3) := by decide +kernel
theorem dc_R_countsWrong_79 : decode bb_R_countsWrong 79 = .ok (.istore 6, 2) := by decide +kernel
theorem dc_R_countsWrong_81 : decode bb_R_countsWrong 81 = .ok (.iload 4, 2) := by decide +kernel
theorem dc_R_countsWrong_83 : decode bb_R_countsWrong 83 = .ok (.ifCond .le 10, 3) := by decide +kernel
theorem dc_R_countsWrong_86 : decode bb_R_countsWrong 86 = .ok (.iload 6, 2) := by decide +kernel
theorem dc_R_countsWrong_88 : decode bb_R_countsWrong 88 = .ok (.ifCond .ne 5, 3) := by decide +kernel
theorem dc_R_countsWrong_91 : decode bb_R_countsWrong 91 = .ok (.iconst 1, 1) := by decide +kernel
theorem dc_R_countsWrong_92 : decode bb_R_countsWrong 92 = .ok (.ireturn, 1) := by decide +kernel
theorem dc_R_countsWrong_93 : decode bb_R_countsWrong 93 = .ok (.iconst 0, 1) := by decide +kernel
theorem dc_R_countsWrong_94 : decode bb_R_countsWrong 94 = .ok (.istore 7, 2) := by decide +kernel
theorem dc_R_countsWrong_96 : decode bb_R_countsWrong 96 = .ok (.iload 7, 2) := by decide +kernel
theorem dc_R_countsWrong_98 : decode bb_R_countsWrong 98 = .ok (.iload 6, 2) := by decide +kernel
theorem dc_R_countsWrong_100 : decode bb_R_countsWrong 100 = .ok (.if_icmp .ge 28, 3) := by decide +kernel
theorem dc_R_countsWrong_103 : decode bb_R_countsWrong 103 = .ok (.aload_n 0, 1) := by decide +kernel
theorem dc_R_countsWrong_104 : decode bb_R_countsWrong 104 = .ok (.iload 5, 2) := by decide +kernel
theorem dc_R_countsWrong_106 : decode bb_R_countsWrong 106 = .ok (.iconst 1, 1) := by decide +kernel
theorem dc_R_countsWrong_107 : decode bb_R_countsWrong 107 = .ok (.iconst 3, 1) := by decide +kernel
theorem dc_R_countsWrong_108 : decode bb_R_countsWrong 108 = .ok (.iload 7, 2) := by decide +kernel
theorem dc_R_countsWrong_110 : decode bb_R_countsWrong 110 = .ok (.imul, 1) := by decide +kernel
theorem dc_R_countsWrong_111 : decode bb_R_countsWrong 111 = .ok (.iadd, 1) := by decide +kernel
theorem dc_R_countsWrong_112 : decode bb_R_countsWrong 112 = .ok (.invokevirtual 106, 3) := by decide +kernel
theorem dc_R_countsWrong_115 : decode bb_R_countsWrong 115 = .ok (.iload 4, 2) := by decide +kernel
theorem dc_R_countsWrong_117 : decode bb_R_countsWrong 117 = .ok (.if_icmp .le 5, 3) := by decide +kernel
theorem dc_R_countsWrong_120 : decode bb_R_countsWrong 120 = .ok (.iconst 1, 1) := by decide +kernel
theorem dc_R_countsWrong_121 : decode bb_R_countsWrong 121 = .ok (.ireturn, 1) := by decide +kernel
theorem dc_R_countsWrong_122 : decode bb_R_countsWrong 122 = .ok (.iinc 7 1, 3) := by decide +kernel
theorem dc_R_countsWrong_125 : decode bb_R_countsWrong 125 = .ok (.goto (-29), 3) := by decide +kernel
theorem dc_R_countsWrong_128 : decode bb_R_countsWrong 128 = .ok (.iconst 0, 1) := by decide +kernel
theorem dc_R_countsWrong_129 : decode bb_R_countsWrong 129 = .ok (.istore 7, 2) := by decide +kernel
theorem dc_R_countsWrong_131 : decode bb_R_countsWrong 131 = .ok (.iconst 1, 1) := by decide +kernel
theorem dc_R_countsWrong_132 : decode bb_R_countsWrong 132 = .ok (.istore 8, 2) := by decide +kernel
theorem dc_R_countsWrong_134 : decode bb_R_countsWrong 134 = .ok (.iload 8, 2) := by decide +kernel
theorem dc_R_countsWrong_136 : decode bb_R_countsWrong 136 = .ok (.iload 4, 2) := by decide +kernel
theorem dc_R_countsWrong_138 : decode bb_R_countsWrong 138 = .ok (.if_icmp .gt 21, 3) := by decide +kernel
theorem dc_R_countsWrong_141 : decode bb_R_countsWrong 141 = .ok (.iload 7, 2) := by decide +kernel
theorem dc_R_countsWrong_143 : decode bb_R_countsWrong 143 = .ok (.aload_n 0, 1) := by decide +kernel
theorem dc_R_countsWrong_144 : decode bb_R_countsWrong 144 = .ok (.iload_n 1, 1) := by decide +kernel
theorem dc_R_countsWrong_145 : decode bb_R_countsWrong 145 = .ok (.iload 8, 2) := by decide +kernel
theorem dc_R_countsWrong_147 : decode bb_R_countsWrong 147 = .ok (.invokevirtual 119, 3) := by decide +kernel
theorem dc_R_countsWrong_150 : decode bb_R_countsWrong 150 = .ok (.iadd, 1) := by decide +kernel
theorem dc_R_countsWrong_151 : decode bb_R_countsWrong 151 = .ok (.istore 7, 2) := by decide +kernel
theorem dc_R_countsWrong_153 : decode bb_R_countsWrong 153 = .ok (.iinc 8 1, 3) := by decide +kernel
theorem dc_R_countsWrong_156 : decode bb_R_countsWrong 156 = .ok (.goto (-22), 3) := by decide +kernel
theorem dc_R_countsWrong_159 : decode bb_R_countsWrong 159 = .ok (.aload_n 0, 1) := by decide +kernel
theorem dc_R_countsWrong_160 : decode bb_R_countsWrong 160 = .ok (.getfield 40, 3) := by decide +kernel
theorem dc_R_countsWrong_163 : decode bb_R_countsWrong 163 = .ok (.bipush 8, 2) := by decide +kernel
theorem dc_R_countsWrong_165 : decode bb_R_countsWrong 165 = .ok (.iload_n 1, 1) := by decide +kernel
theorem dc_R_countsWrong_166 : decode bb_R_countsWrong 166 = .ok (.imul, 1) := by decide +kernel
theorem dc_R_countsWrong_167 : decode bb_R_countsWrong 167 = .ok (.bipush 6, 2) := by decide +kernel
theorem dc_R_countsWrong_169 : decode bb_R_countsWrong 169 = .ok (.iadd, 1) := by decide +kernel
theorem dc_R_countsWrong_170 : decode bb_R_countsWrong 170 = .ok (.iaload, 1) := by decide +kernel
theorem dc_R_countsWrong_171 : decode bb_R_countsWrong 171 = .ok (.istore 8, 2) := by decide +kernel
theorem dc_R_countsWrong_173 : decode bb_R_countsWrong 173 = .ok (.iload 7, 2) := by decide +kernel
theorem dc_R_countsWrong_175 : decode bb_R_countsWrong 175 = .ok (.iload_n 2, 1) := by decide +kernel
theorem dc_R_countsWrong_176 : decode bb_R_countsWrong 176 = .ok (.if_icmp .eq 7, 3) := by decide +kernel
theorem dc_R_countsWrong_179 : decode bb_R_countsWrong 179 = .ok (.iconst 1, 1) := by decide +kernel
theorem dc_R_countsWrong_180 : decode bb_R_countsWrong 180 = .ok (.goto 4, 3) := by decide +kernel
theorem dc_R_countsWrong_183 : decode bb_R_countsWrong 183 = .ok (.iconst 0, 1) := by decide +kernel
theorem dc_R_countsWrong_184 : decode bb_R_countsWrong 184 = .ok (.istore 9, 2) := by decide +kernel
theorem dc_R_countsWrong_186 : decode bb_R_countsWrong 186 = .ok (.iload 8, 2) := by decide +kernel
theorem dc_R_countsWrong_188 : decode bb_R_countsWrong 188 = .ok (.ifCond .ge 7, 3) := by decide +kernel
theorem dc_R_countsWrong_191 : decode bb_R_countsWrong 191 = .ok (.iconst 0, 1) := by decide +kernel
theorem dc_R_countsWrong_192 : decode bb_R_countsWrong 192 = .ok (.goto 10, 3) := by decide +kernel
theorem dc_R_countsWrong_195 : decode bb_R_countsWrong 195 = .ok (.aload_n 0, 1) := by decide +kernel
theorem dc_R_countsWrong_196 : decode bb_R_countsWrong 196 = .ok (.iload 8, 2) := by decide +kernel
theorem dc_R_countsWrong_198 : decode bb_R_countsWrong 198 = .ok (.iconst 0, 1) := by decide +kernel
theorem dc_R_countsWrong_199 : decode bb_R_countsWrong 199 = .ok (.invokevirtual 106, 3) := by decide +kernel
theorem dc_R_countsWrong_202 : decode bb_R_countsWrong 202 = .ok (.istore 10, 2) := by decide +kernel
theorem dc_R_countsWrong_204 : decode bb_R_countsWrong 204 = .ok (.iconst 0, 1) := by decide +kernel
theorem dc_R_countsWrong_205 : decode bb_R_countsWrong 205 = .ok (.istore 11, 2) := by decide +kernel
theorem dc_R_countsWrong_207 : decode bb_R_countsWrong 207 = .ok (.iload 11, 2) := by decide +kernel
theorem dc_R_countsWrong_209 : decode bb_R_countsWrong 209 = .ok (.iload 10, 2) := by decide +kernel
theorem dc_R_countsWrong_211 : decode bb_R_countsWrong 211 = .ok (.if_icmp .ge 35, 3) := by decide +kernel
theorem dc_R_countsWrong_214 : decode bb_R_countsWrong 214 = .ok (.iload 9, 2) := by decide +kernel
theorem dc_R_countsWrong_216 : decode bb_R_countsWrong 216 = .ok (.ifCond .ne 17, 3) := by decide +kernel
theorem dc_R_countsWrong_219 : decode bb_R_countsWrong 219 = .ok (.aload_n 0, 1) := by decide +kernel
theorem dc_R_countsWrong_220 : decode bb_R_countsWrong 220 = .ok (.iload 8, 2) := by decide +kernel
theorem dc_R_countsWrong_222 : decode bb_R_countsWrong 222 = .ok (.iconst 1, 1) := by decide +kernel
theorem dc_R_countsWrong_223 : decode bb_R_countsWrong 223 = .ok (.iload 11, 2) := by decide +kernel
theorem dc_R_countsWrong_225 : decode bb_R_countsWrong 225 = .ok (.iadd, 1) := by decide +kernel
theorem dc_R_countsWrong_226 : decode bb_R_countsWrong 226 = .ok (.invokevirtual 106, 3) := by decide +kernel
theorem dc_R_countsWrong_229 : decode bb_R_countsWrong 229 = .ok (.iload_n 2, 1) := by decide +kernel
theorem dc_R_countsWrong_230 : decode bb_R_countsWrong 230 = .ok (.if_icmp .le 7, 3) := by decide +kernel
theorem dc_R_countsWrong_233 : decode bb_R_countsWrong 233 = .ok (.iconst 1, 1) := by decide +kernel
theorem dc_R_countsWrong_234 : decode bb_R_countsWrong 234 = .ok (.goto 4, 3) := by decide +kernel
theorem dc_R_countsWrong_237 : decode bb_R_countsWrong 237 = .ok (.iconst 0, 1) := by decide +kernel
theorem dc_R_countsWrong_238 : decode bb_R_countsWrong 238 = .ok (.istore 9, 2) := by decide +kernel
theorem dc_R_countsWrong_240 : decode bb_R_countsWrong 240 = .ok (.iinc 11 1, 3) := by decide +kernel
theorem dc_R_countsWrong_243 : decode bb_R_countsWrong 243 = .ok (.goto (-36), 3) := by decide +kernel
theorem dc_R_countsWrong_246 : decode bb_R_countsWrong 246 = .ok (.iload 9, 2) := by decide +kernel
theorem dc_R_countsWrong_248 : decode bb_R_countsWrong 248 = .ok (.ireturn, 1) := by decide +kernel
theorem dc_R_sampleCount_0 : decode bb_R_sampleCount 0 = .ok (.aload_n 0, 1) := by decide +kernel
theorem dc_R_sampleCount_1 : decode bb_R_sampleCount 1 = .ok (.aload_n 0, 1) := by decide +kernel
theorem dc_R_sampleCount_2 : decode bb_R_sampleCount 2 = .ok (.getfield 40, 3) := by decide +kernel
theorem dc_R_sampleCount_5 : decode bb_R_sampleCount 5 = .ok (.bipush 8, 2) := by decide +kernel
theorem dc_R_sampleCount_7 : decode bb_R_sampleCount 7 = .ok (.iload_n 1, 1) := by decide +kernel
theorem dc_R_sampleCount_8 : decode bb_R_sampleCount 8 = .ok (.imul, 1) := by decide +kernel
theorem dc_R_sampleCount_9 : decode bb_R_sampleCount 9 = .ok (.iconst 3, 1) := by decide +kernel
theorem dc_R_sampleCount_10 : decode bb_R_sampleCount 10 = .ok (.iadd, 1) := by decide +kernel
theorem dc_R_sampleCount_11 : decode bb_R_sampleCount 11 = .ok (.iaload, 1) := by decide +kernel
theorem dc_R_sampleCount_12 : decode bb_R_sampleCount 12 = .ok (.iconst 1, 1) := by decide +kernel
theorem dc_R_sampleCount_13 : decode bb_R_sampleCount 13 = .ok (.invokevirtual 106, 3) := by decide +kernel
theorem dc_R_sampleCount_16 : decode bb_R_sampleCount 16 = .ok (.ireturn, 1) := by decide +kernel
theorem dc_R_total_0 : decode bb_R_total 0 = .ok (.iconst 0, 1) := by decide +kernel
theorem dc_R_total_1 : decode bb_R_total 1 = .ok (.istore_n 2, 1) := by decide +kernel
theorem dc_R_total_2 : decode bb_R_total 2 = .ok (.iconst 0, 1) := by decide +kernel
theorem dc_R_total_3 : decode bb_R_total 3 = .ok (.istore_n 3, 1) := by decide +kernel
theorem dc_R_total_4 : decode bb_R_total 4 = .ok (.iload_n 3, 1) := by decide +kernel
theorem dc_R_total_5 : decode bb_R_total 5 = .ok (.aload_n 0, 1) := by decide +kernel
theorem dc_R_total_6 : decode bb_R_total 6 = .ok (.iload_n 1, 1) := by decide +kernel
theorem dc_R_total_7 : decode bb_R_total 7 = .ok (.iconst 0, 1) := by decide +kernel
theorem dc_R_total_8 : decode bb_R_total 8 = .ok (.invokevirtual 106, 3) := by decide +kernel
theorem dc_R_total_11 : decode bb_R_total 11 = .ok (.if_icmp .ge 22, 3) := by decide +kernel
theorem dc_R_total_14 : decode bb_R_total 14 = .ok (.iload_n 2, 1) := by decide +kernel
theorem dc_R_total_15 : decode bb_R_total 15 = .ok (.aload_n 0, 1) := by decide +kernel
theorem dc_R_total_16 : decode bb_R_total 16 = .ok (.iload_n 1, 1) := by decide +kernel
theorem dc_R_total_17 : decode bb_R_total 17 = .ok (.iconst 1, 1) := by decide +kernel
theorem dc_R_total_18 : decode bb_R_total 18 = .ok (.iconst 2, 1) := by decide +kernel
theorem dc_R_total_19 : decode bb_R_total 19 = .ok (.iload_n 3, 1) := by decide +kernel
theorem dc_R_total_20 : decode bb_R_total 20 = .ok (.imul, 1) := by decide +kernel
theorem dc_R_total_21 : decode bb_R_total 21 = .ok (.iadd, 1) := by decide +kernel
theorem dc_R_total_22 : decode bb_R_total 22 = .ok (.invokevirtual 106, 3) := by decide +kernel
theorem dc_R_total_25 : decode bb_R_total 25 = .ok (.iadd, 1) := by decide +kernel
theorem dc_R_total_26 : decode bb_R_total 26 = .ok (.istore_n 2, 1) := by decide +kernel
theorem dc_R_total_27 : decode bb_R_total 27 = .ok (.iinc 3 1, 3) := by decide +kernel
theorem dc_R_total_30 : decode bb_R_total 30 = .ok (.goto (-26), 3) := by decide +kernel
theorem dc_R_total_33 : decode bb_R_total 33 = .ok (.iload_n 2, 1) := by decide +kernel
theorem dc_R_total_34 : decode bb_R_total 34 = .ok (.ireturn, 1) := by decide +kernel
theorem dc_R_chunkCount_0 : decode bb_R_chunkCount 0 = .ok (.aload_n 0, 1) := by decide +kernel
theorem dc_R_chunkCount_1 : decode bb_R_chunkCount 1 = .ok (.iload_n 1, 1) := by decide +kernel
theorem dc_R_chunkCount_2 : decode bb_R_chunkCount 2 = .ok (.invokevirtual 122, 3) := by decide +kernel
theorem dc_R_chunkCount_5 : decode bb_R_chunkCount 5 = .ok (.istore_n 2, 1) := by decide +kernel
theorem dc_R_chunkCount_6 : decode bb_R_chunkCount 6 = .ok (.aload_n 0, 1) := by decide +kernel
theorem dc_R_chunkCount_7 : decode bb_R_chunkCount 7 = .ok (.iload_n 2, 1) := by decide +kernel
theorem dc_R_chunkCount_8 : decode bb_R_chunkCount 8 = .ok (.iconst 0, 1) := by decide +kernel
theorem dc_R_chunkCount_9 : decode bb_R_chunkCount 9 = .ok (.invokevirtual 106, 3) := by decide +kernel
theorem dc_R_chunkCount_12 : decode bb_R_chunkCount 12 = .ok (.ireturn, 1) := by decide +kernel
theorem dc_R_placesBox_0 : decode bb_R_placesBox 0 = .ok (.aload_n 0, 1) := by decide +kernel
theorem dc_R_placesBox_1 : decode bb_R_placesBox 1 = .ok (.getfield 40, 3) := by decide +kernel
theorem dc_R_placesBox_4 : decode bb_R_placesBox 4 = .ok (.bipush 8, 2) := by decide +kernel
theorem dc_R_placesBox_6 : decode bb_R_placesBox 6 = .ok (.iload_n 1, 1) := by decide +kernel
theorem dc_R_placesBox_7 : decode bb_R_placesBox 7 = .ok (.imul, 1) := by decide +kernel
theorem dc_R_placesBox_8 : decode bb_R_placesBox 8 = .ok (.iconst 4, 1) := by decide +kernel
theorem dc_R_placesBox_9 : decode bb_R_placesBox 9 = .ok (.iadd, 1) := by decide +kernel
theorem dc_R_placesBox_10 : decode bb_R_placesBox 10 = .ok (.iaload, 1) := by decide +kernel
theorem dc_R_placesBox_11 : decode bb_R_placesBox 11 = .ok (.istore_n 2, 1) := by decide +kernel
theorem dc_R_placesBox_12 : decode bb_R_placesBox 12 = .ok (.iload_n 2, 1) := by decide +kernel
theorem dc_R_placesBox_13 : decode bb_R_placesBox 13 = .ok (.ifCond .lt 7, 3) := by decide +kernel
theorem dc_R_placesBox_16 : decode bb_R_placesBox 16 = .ok (.iload_n 2, 1) := by decide +kernel
theorem dc_R_placesBox_17 : decode bb_R_placesBox 17 = .ok (.goto 14, 3) := by decide +kernel
theorem dc_R_placesBox_20 : decode bb_R_placesBox 20 = .ok (.aload_n 0, 1) := by decide +kernel
theorem dc_R_placesBox_21 : decode bb_R_placesBox 21 = .ok (.getfield 40, 3) := by decide +kernel
theorem dc_R_placesBox_24 : decode bb_R_placesBox 24 = .ok (.bipush 8, 2) := by decide +kernel
theorem dc_R_placesBox_26 : decode bb_R_placesBox 26 = .ok (.iload_n 1, 1) := by decide +kernel
theorem dc_R_placesBox_27 : decode bb_R_placesBox 27 = .ok (.imul, 1) := by decide +kernel
theorem dc_R_placesBox_28 : decode bb_R_placesBox 28 = .ok (.iconst 5, 1) := by decide +kernel
theorem dc_R_placesBox_29 : decode bb_R_placesBox 29 = .ok (.iadd, 1) := by decide +kernel
theorem dc_R_placesBox_30 : decode bb_R_placesBox 30 = .ok (.iaload, 1) := by decide +kernel
theorem dc_R_placesBox_31 : decode bb_R_placesBox 31 = .ok (.ireturn, 1) := by decide +kernel
theorem dc_R_many_0 : decode bb_R_many 0 = .ok (.aload_n 0, 1) := by decide +kernel
theorem dc_R_many_1 : decode bb_R_many 1 = .ok (.iload_n 1, 1) := by decide +kernel
theorem dc_R_many_2 : decode bb_R_many 2 = .ok (.iload_n 2, 1) := by decide +kernel
theorem dc_R_many_3 : decode bb_R_many 3 = .ok (.invokevirtual 125, 3) := by decide +kernel
theorem dc_R_many_6 : decode bb_R_many 6 = .ok (.istore_n 3, 1) := by decide +kernel
theorem dc_R_many_7 : decode bb_R_many 7 = .ok (.aload_n 0, 1) := by decide +kernel
theorem dc_R_many_8 : decode bb_R_many 8 = .ok (.aload_n 0, 1) := by decide +kernel
theorem dc_R_many_9 : decode bb_R_many 9 = .ok (.getfield 40, 3) := by decide +kernel
theorem dc_R_many_12 : decode bb_R_many 12 = .ok (.bipush 8, 2) := by decide +kernel
theorem dc_R_many_14 : decode bb_R_many 14 = .ok (.iload_n 1, 1) := by decide +kernel
theorem dc_R_many_15 : decode bb_R_many 15 = .ok (.imul, 1) := by decide +kernel
theorem dc_R_many_16 : decode bb_R_many 16 = .ok (.iconst 2, 1) := by decide +kernel
theorem dc_R_many_17 : decode bb_R_many 17 = .ok (.iadd, 1) := by decide +kernel
theorem dc_R_many_18 : decode bb_R_many 18 = .ok (.iaload, 1) := by decide +kernel
theorem dc_R_many_19 : decode bb_R_many 19 = .ok (.iconst 2, 1) := by decide +kernel
theorem dc_R_many_20 : decode bb_R_many 20 = .ok (.iconst 3, 1) := by decide +kernel
theorem dc_R_many_21 : decode bb_R_many 21 = .ok (.iload_n 3, 1) := by decide +kernel
theorem dc_R_many_22 : decode bb_R_many 22 = .ok (.imul, 1) := by decide +kernel
theorem dc_R_many_23 : decode bb_R_many 23 = .ok (.iadd, 1) := by decide +kernel
theorem dc_R_many_24 : decode bb_R_many 24 = .ok (.invokevirtual 106, 3) := by decide +kernel
theorem dc_R_many_27 : decode bb_R_many 27 = .ok (.ireturn, 1) := by decide +kernel
theorem dc_R_rowOf_0 : decode bb_R_rowOf 0 = .ok (.aload_n 0, 1) := by decide +kernel
theorem dc_R_rowOf_1 : decode bb_R_rowOf 1 = .ok (.getfield 40, 3) := by decide +kernel
theorem dc_R_rowOf_4 : decode bb_R_rowOf 4 = .ok (.bipush 8, 2) := by decide +kernel
theorem dc_R_rowOf_6 : decode bb_R_rowOf 6 = .ok (.iload_n 1, 1) := by decide +kernel
theorem dc_R_rowOf_7 : decode bb_R_rowOf 7 = .ok (.imul, 1) := by decide +kernel
theorem dc_R_rowOf_8 : decode bb_R_rowOf 8 = .ok (.iconst 2, 1) := by decide +kernel
theorem dc_R_rowOf_9 : decode bb_R_rowOf 9 = .ok (.iadd, 1) := by decide +kernel
theorem dc_R_rowOf_10 : decode bb_R_rowOf 10 = .ok (.iaload, 1) := by decide +kernel
theorem dc_R_rowOf_11 : decode bb_R_rowOf 11 = .ok (.istore_n 3, 1) := by decide +kernel
theorem dc_R_rowOf_12 : decode bb_R_rowOf 12 = .ok (.iconst 0, 1) := by decide +kernel
theorem dc_R_rowOf_13 : decode bb_R_rowOf 13 = .ok (.istore 4, 2) := by decide +kernel
theorem dc_R_rowOf_15 : decode bb_R_rowOf 15 = .ok (.iconst 0, 1) := by decide +kernel
theorem dc_R_rowOf_16 : decode bb_R_rowOf 16 = .ok (.istore 5, 2) := by decide +kernel
theorem dc_R_rowOf_18 : decode bb_R_rowOf 18 = .ok (.iload 5, 2) := by decide +kernel
theorem dc_R_rowOf_20 : decode bb_R_rowOf 20 = .ok (.aload_n 0, 1) := by decide +kernel
theorem dc_R_rowOf_21 : decode bb_R_rowOf 21 = .ok (.iload_n 3, 1) := by decide +kernel
theorem dc_R_rowOf_22 : decode bb_R_rowOf 22 = .ok (.iconst 0, 1) := by decide +kernel
theorem dc_R_rowOf_23 : decode bb_R_rowOf 23 = .ok (.invokevirtual 106, 3) := by decide +kernel
theorem dc_R_rowOf_26 : decode bb_R_rowOf 26 = .ok (.if_icmp .ge 33, 3) := by decide +kernel
theorem dc_R_rowOf_29 : decode bb_R_rowOf 29 = .ok (.aload_n 0, 1) := by decide +kernel
theorem dc_R_rowOf_30 : decode bb_R_rowOf 30 = .ok (.iload_n 3, 1) := by decide +kernel
theorem dc_R_rowOf_31 : decode bb_R_rowOf 31 = .ok (.iconst 1, 1) := by decide +kernel
theorem dc_R_rowOf_32 : decode bb_R_rowOf 32 = .ok (.iconst 3, 1) := by decide +kernel
theorem dc_R_rowOf_33 : decode bb_R_rowOf 33 = .ok (.iload 5, 2) := by decide +kernel
theorem dc_R_rowOf_35 : decode bb_R_rowOf 35 = .ok (.imul, 1) := by decide +kernel
theorem dc_R_rowOf_36 : decode bb_R_rowOf 36 = .ok (.iadd, 1) := by decide +kernel
theorem dc_R_rowOf_37 : decode bb_R_rowOf 37 = .ok (.invokevirtual 106, 3) := by decide +kernel
theorem dc_R_rowOf_40 : decode bb_R_rowOf 40 = .ok (.iload_n 2, 1) := by decide +kernel
theorem dc_R_rowOf_41 : decode bb_R_rowOf 41 = .ok (.if_icmp .gt 8, 3) := by decide +kernel
theorem dc_R_rowOf_44 : decode bb_R_rowOf 44 = .ok (.iload 5, 2) := by decide +kernel
theorem dc_R_rowOf_46 : decode bb_R_rowOf 46 = .ok (.goto 5, 3) := by decide +kernel
theorem dc_R_rowOf_49 : decode bb_R_rowOf 49 = .ok (.iload 4, 2) := by decide +kernel
theorem dc_R_rowOf_51 : decode bb_R_rowOf 51 = .ok (.istore 4, 2) := by decide +kernel
theorem dc_R_rowOf_53 : decode bb_R_rowOf 53 = .ok (.iinc 5 1, 3) := by decide +kernel
theorem dc_R_rowOf_56 : decode bb_R_rowOf 56 = .ok (.goto (-38), 3) := by decide +kernel
theorem dc_R_rowOf_59 : decode bb_R_rowOf 59 = .ok (.iload 4, 2) := by decide +kernel
theorem dc_R_rowOf_61 : decode bb_R_rowOf 61 = .ok (.ireturn, 1) := by decide +kernel
theorem dc_R_settle_0 : decode bb_R_settle 0 = .ok (.iconst 1, 1) := by decide +kernel
theorem dc_R_settle_1 : decode bb_R_settle 1 = .ok (.istore_n 2, 1) := by decide +kernel
theorem dc_R_settle_2 : decode bb_R_settle 2 = .ok (.iconst 0, 1) := by decide +kernel
theorem dc_R_settle_3 : decode bb_R_settle 3 = .ok (.istore_n 3, 1) := by decide +kernel
theorem dc_R_settle_4 : decode bb_R_settle 4 = .ok (.iconst 1, 1) := by decide +kernel
theorem dc_R_settle_5 : decode bb_R_settle 5 = .ok (.istore 4, 2) := by decide +kernel
theorem dc_R_settle_7 : decode bb_R_settle 7 = .ok (.iload 4, 2) := by decide +kernel
theorem dc_R_settle_9 : decode bb_R_settle 9 = .ok (.aload_n 0, 1) := by decide +kernel
theorem dc_R_settle_10 : decode bb_R_settle 10 = .ok (.iload_n 1, 1) := by decide +kernel
theorem dc_R_settle_11 : decode bb_R_settle 11 = .ok (.invokevirtual 116, 3) := by decide +kernel
theorem dc_R_settle_14 : decode bb_R_settle 14 = .ok (.if_icmp .gt 107, 3) := by decide +kernel
theorem dc_R_settle_17 : decode bb_R_settle 17 = .ok (.iconst 0, 1) := by decide +kernel
theorem dc_R_settle_18 : decode bb_R_settle 18 = .ok (.istore 5, 2) := by decide +kernel
theorem dc_R_settle_20 : decode bb_R_settle 20 = .ok (.aload_n 0, 1) := by decide +kernel
theorem dc_R_settle_21 : decode bb_R_settle 21 = .ok (.iload_n 1, 1) := by decide +kernel
theorem dc_R_settle_22 : decode bb_R_settle 22 = .ok (.iload 4, 2) := by decide +kernel
theorem dc_R_settle_24 : decode bb_R_settle 24 = .ok (.invokevirtual 119, 3) := by decide +kernel
theorem dc_R_settle_27 : decode bb_R_settle 27 = .ok (.istore 6, 2) := by decide +kernel
theorem dc_R_settle_29 : decode bb_R_settle 29 = .ok (.iconst 0, 1) := by decide +kernel
theorem dc_R_settle_30 : decode bb_R_settle 30 = .ok (.istore 7, 2) := by decide +kernel
theorem dc_R_settle_32 : decode bb_R_settle 32 = .ok (.iload 7, 2) := by decide +kernel
theorem dc_R_settle_34 : decode bb_R_settle 34 = .ok (.iload 6, 2) := by decide +kernel
theorem dc_R_settle_36 : decode bb_R_settle 36 = .ok (.if_icmp .ge 23, 3) := by decide +kernel
theorem dc_R_settle_39 : decode bb_R_settle 39 = .ok (.iload 5, 2) := by decide +kernel
theorem dc_R_settle_41 : decode bb_R_settle 41 = .ok (.aload_n 0, 1) := by decide +kernel
theorem dc_R_settle_42 : decode bb_R_settle 42 = .ok (.iload_n 1, 1) := by decide +kernel
theorem dc_R_settle_43 : decode bb_R_settle 43 = .ok (.iload_n 3, 1) := by decide +kernel
theorem dc_R_settle_44 : decode bb_R_settle 44 = .ok (.invokevirtual 128, 3) := by decide +kernel
theorem dc_R_settle_47 : decode bb_R_settle 47 = .ok (.iadd, 1) := by decide +kernel
theorem dc_R_settle_48 : decode bb_R_settle 48 = .ok (.istore 5, 2) := by decide +kernel
theorem dc_R_settle_50 : decode bb_R_settle 50 = .ok (.iinc 3 1, 3) := by decide +kernel
theorem dc_R_settle_53 : decode bb_R_settle 53 = .ok (.iinc 7 1, 3) := by decide +kernel
theorem dc_R_settle_56 : decode bb_R_settle 56 = .ok (.goto (-24), 3) := by decide +kernel
theorem dc_R_settle_59 : decode bb_R_settle 59 = .ok (.aload_n 0, 1) := by decide +kernel
theorem dc_R_settle_60 : decode bb_R_settle 60 = .ok (.iload_n 1, 1) := by decide +kernel
theorem dc_R_settle_61 : decode bb_R_settle 61 = .ok (.iload 4, 2) := by decide +kernel
theorem dc_R_settle_63 : decode bb_R_settle 63 = .ok (.invokevirtual 131, 3) := by decide +kernel
theorem dc_R_settle_66 : decode bb_R_settle 66 = .ok (.istore 7, 2) := by decide +kernel
theorem dc_R_settle_68 : decode bb_R_settle 68 = .ok (.aload_n 0, 1) := by decide +kernel
theorem dc_R_settle_69 : decode bb_R_settle 69 = .ok (.getfield 43, 3) := by decide +kernel
theorem dc_R_settle_72 : decode bb_R_settle 72 = .ok (.sipush 256, 3) := by decide +kernel
theorem dc_R_settle_75 : decode bb_R_settle 75 = .ok (.iload_n 1, 1) := by decide +kernel
theorem dc_R_settle_76 : decode bb_R_settle 76 = .ok (.imul, 1) := by decide +kernel
theorem dc_R_settle_77 : decode bb_R_settle 77 = .ok (.iload 4, 2) := by decide +kernel
theorem dc_R_settle_79 : decode bb_R_settle 79 = .ok (.iadd, 1) := by decide +kernel
theorem dc_R_settle_80 : decode bb_R_settle 80 = .ok (.aload_n 0, 1) := by decide +kernel
theorem dc_R_settle_81 : decode bb_R_settle 81 = .ok (.iload 7, 2) := by decide +kernel
theorem dc_R_settle_83 : decode bb_R_settle 83 = .ok (.iload 5, 2) := by decide +kernel
theorem dc_R_settle_85 : decode bb_R_settle 85 = .ok (.invokevirtual 134, 3) := by decide +kernel
theorem dc_R_settle_88 : decode bb_R_settle 88 = .ok (.iastore, 1) := by decide +kernel
theorem dc_R_settle_89 : decode bb_R_settle 89 = .ok (.iload_n 2, 1) := by decide +kernel
theorem dc_R_settle_90 : decode bb_R_settle 90 = .ok (.ifCond .eq 23, 3) := by decide +kernel
theorem dc_R_settle_93 : decode bb_R_settle 93 = .ok (.aload_n 0, 1) := by decide +kernel
theorem dc_R_settle_94 : decode bb_R_settle 94 = .ok (.getfield 43, 3) := by decide +kernel
theorem dc_R_settle_97 : decode bb_R_settle 97 = .ok (.sipush 256, 3) := by decide +kernel
theorem dc_R_settle_100 : decode bb_R_settle 100 = .ok (.iload_n 1, 1) := by decide +kernel
theorem dc_R_settle_101 : decode bb_R_settle 101 = .ok (.imul, 1) := by decide +kernel
theorem dc_R_settle_102 : decode bb_R_settle 102 = .ok (.iload 4, 2) := by decide +kernel
theorem dc_R_settle_104 : decode bb_R_settle 104 = .ok (.iadd, 1) := by decide +kernel
theorem dc_R_settle_105 : decode bb_R_settle 105 = .ok (.iaload, 1) := by decide +kernel
theorem dc_R_settle_106 : decode bb_R_settle 106 = .ok (.ifCond .lt 7, 3) := by decide +kernel
theorem dc_R_settle_109 : decode bb_R_settle 109 = .ok (.iconst 1, 1) := by decide +kernel
theorem dc_R_settle_110 : decode bb_R_settle 110 = .ok (.goto 4, 3) := by decide +kernel
theorem dc_R_settle_113 : decode bb_R_settle 113 = .ok (.iconst 0, 1) := by decide +kernel
theorem dc_R_settle_114 : decode bb_R_settle 114 = .ok (.istore_n 2, 1) := by decide +kernel
theorem dc_R_settle_115 : decode bb_R_settle 115 = .ok (.iinc 4 1, 3) := by decide +kernel
theorem dc_R_settle_118 : decode bb_R_settle 118 = .ok (.goto (-111), 3) := by decide +kernel
theorem dc_R_settle_121 : decode bb_R_settle 121 = .ok (.iload_n 2, 1) := by decide +kernel
theorem dc_R_settle_122 : decode bb_R_settle 122 = .ok (.ireturn, 1) := by decide +kernel
theorem dc_R_sizeOf_0 : decode bb_R_sizeOf 0 = .ok (.aload_n 0, 1) := by decide +kernel
theorem dc_R_sizeOf_1 : decode bb_R_sizeOf 1 = .ok (.getfield 40, 3) := by decide +kernel
theorem dc_R_sizeOf_4 : decode bb_R_sizeOf 4 = .ok (.bipush 8, 2) := by decide +kernel
theorem dc_R_sizeOf_6 : decode bb_R_sizeOf 6 = .ok (.iload_n 1, 1) := by decide +kernel
theorem dc_R_sizeOf_7 : decode bb_R_sizeOf 7 = .ok (.imul, 1) := by decide +kernel
theorem dc_R_sizeOf_8 : decode bb_R_sizeOf 8 = .ok (.iconst 3, 1) := by decide +kernel
theorem dc_R_sizeOf_9 : decode bb_R_sizeOf 9 = .ok (.iadd, 1) := by decide +kernel
theorem dc_R_sizeOf_10 : decode bb_R_sizeOf 10 = .ok (.iaload, 1) := by decide +kernel
theorem dc_R_sizeOf_11 : decode bb_R_sizeOf 11 = .ok (.istore_n 3, 1) := by decide +kernel
theorem dc_R_sizeOf_12 : decode bb_R_sizeOf 12 = .ok (.aload_n 0, 1) := by decide +kernel
theorem dc_R_sizeOf_13 : decode bb_R_sizeOf 13 = .ok (.iload_n 3, 1) := by decide +kernel
theorem dc_R_sizeOf_14 : decode bb_R_sizeOf 14 = .ok (.iconst 0, 1) := by decide +kernel
theorem dc_R_sizeOf_15 : decode bb_R_sizeOf 15 = .ok (.invokevirtual 106, 3) := by decide +kernel
theorem dc_R_sizeOf_18 : decode bb_R_sizeOf 18 = .ok (.istore 4, 2) := by decide +kernel
theorem dc_R_sizeOf_20 : decode bb_R_sizeOf 20 = .ok (.iload 4, 2) := by decide +kernel
theorem dc_R_sizeOf_22 : decode bb_R_sizeOf 22 = .ok (.ifCond .eq 8, 3) := by decide +kernel
theorem dc_R_sizeOf_25 : decode bb_R_sizeOf 25 = .ok (.iload 4, 2) := by decide +kernel
theorem dc_R_sizeOf_27 : decode bb_R_sizeOf 27 = .ok (.goto 11, 3) := by decide +kernel
theorem dc_R_sizeOf_30 : decode bb_R_sizeOf 30 = .ok (.aload_n 0, 1) := by decide +kernel
theorem dc_R_sizeOf_31 : decode bb_R_sizeOf 31 = .ok (.iload_n 3, 1) := by decide +kernel
theorem dc_R_sizeOf_32 : decode bb_R_sizeOf 32 = .ok (.iconst 2, 1) := by decide +kernel
theorem dc_R_sizeOf_33 : decode bb_R_sizeOf 33 = .ok (.iload_n 2, 1) := by decide +kernel
theorem dc_R_sizeOf_34 : decode bb_R_sizeOf 34 = .ok (.iadd, 1) := by decide +kernel
theorem dc_R_sizeOf_35 : decode bb_R_sizeOf 35 = .ok (.invokevirtual 106, 3) := by decide +kernel
theorem dc_R_sizeOf_38 : decode bb_R_sizeOf 38 = .ok (.ireturn, 1) := by decide +kernel
theorem dc_R_chunkPlace_0 : decode bb_R_chunkPlace 0 = .ok (.aload_n 0, 1) := by decide +kernel
theorem dc_R_chunkPlace_1 : decode bb_R_chunkPlace 1 = .ok (.iload_n 1, 1) := by decide +kernel
theorem dc_R_chunkPlace_2 : decode bb_R_chunkPlace 2 = .ok (.invokevirtual 122, 3) := by decide +kernel
theorem dc_R_chunkPlace_5 : decode bb_R_chunkPlace 5 = .ok (.istore_n 3, 1) := by decide +kernel
theorem dc_R_chunkPlace_6 : decode bb_R_chunkPlace 6 = .ok (.aload_n 0, 1) := by decide +kernel
theorem dc_R_chunkPlace_7 : decode bb_R_chunkPlace 7 = .ok (.getfield 19, 3) := by decide +kernel
theorem dc_R_chunkPlace_10 : decode bb_R_chunkPlace 10 = .ok (.iload_n 3, 1) := by decide +kernel
theorem dc_R_chunkPlace_11 : decode bb_R_chunkPlace 11 = .ok (.iaload, 1) := by decide +kernel
theorem dc_R_chunkPlace_12 : decode bb_R_chunkPlace 12 = .ok (.bipush 111, 2) := by decide +kernel
theorem dc_R_chunkPlace_14 : decode bb_R_chunkPlace 14 = .ok (.if_icmp .ne 12, 3) := by decide +kernel
theorem dc_R_chunkPlace_17 : decode bb_R_chunkPlace 17 = .ok (.aload_n 0, 1) := by decide +kernel
theorem dc_R_chunkPlace_18 : decode bb_R_chunkPlace 18 = .ok (.iload_n 3, 1) := by decide +kernel
theorem dc_R_chunkPlace_19 : decode bb_R_chunkPlace 19 = .ok (.iload_n 2, 1) := by decide +kernel
theorem dc_R_chunkPlace_20 : decode bb_R_chunkPlace 20 = .ok (.invokevirtual 106, 3) := by decide +kernel
theorem dc_R_chunkPlace_23 : decode bb_R_chunkPlace 23 = .ok (.goto 26, 3) := by decide +kernel
theorem dc_R_chunkPlace_26 : decode bb_R_chunkPlace 26 = .ok (.sipush 256, 3) := by decide +kernel
theorem dc_R_chunkPlace_29 : decode bb_R_chunkPlace 29 = .ok (.aload_n 0, 1) := by decide +kernel
theorem dc_R_chunkPlace_30 : decode bb_R_chunkPlace 30 = .ok (.iload_n 3, 1) := by decide +kernel
theorem dc_R_chunkPlace_31 : decode bb_R_chunkPlace 31 = .ok (.iconst 2, 1) := by decide +kernel
theorem dc_R_chunkPlace_32 : decode bb_R_chunkPlace 32 = .ok (.iload_n 2, 1) := by decide +kernel
theorem dc_R_chunkPlace_33 : decode bb_R_chunkPlace 33 = .ok (.imul, 1) := by decide +kernel
theorem dc_R_chunkPlace_34 : decode bb_R_chunkPlace 34 = .ok (.iconst 1, 1) := by decide +kernel
theorem dc_R_chunkPlace_35 : decode bb_R_chunkPlace 35 = .ok (.isub, 1) := by decide +kernel
theorem dc_R_chunkPlace_36 : decode bb_R_chunkPlace 36 = .ok (.invokevirtual 106, 3) := by decide +kernel
theorem dc_R_chunkPlace_39 : decode bb_R_chunkPlace 39 = .ok (.imul, 1) := by decide +kernel
theorem dc_R_chunkPlace_40 : decode bb_R_chunkPlace 40 = .ok (.aload_n 0, 1) := by decide +kernel
theorem dc_R_chunkPlace_41 : decode bb_R_chunkPlace 41 = .ok (.iload_n 3, 1) := by decide +kernel
theorem dc_R_chunkPlace_42 : decode bb_R_chunkPlace 42 = .ok (.iconst 2, 1) := by decide +kernel
theorem dc_R_chunkPlace_43 : decode bb_R_chunkPlace 43 = .ok (.iload_n 2, 1) := by decide +kernel
theorem dc_R_chunkPlace_44 : decode bb_R_chunkPlace 44 = .ok (.imul, 1) := by decide +kernel
theorem dc_R_chunkPlace_45 : decode bb_R_chunkPlace 45 = .ok (.invokevirtual 106, 3) := by decide +kernel
theorem dc_R_chunkPlace_48 : decode bb_R_chunkPlace 48 = .ok (.iadd, 1) := by decide +kernel
theorem dc_R_chunkPlace_49 : decode bb_R_chunkPlace 49 = .ok (.ireturn, 1) := by decide +kernel
theorem dc_R_dataBox_0 : decode bb_R_dataBox 0 = .ok (.iconst 0, 1) := by decide +kernel
theorem dc_R_dataBox_1 : decode bb_R_dataBox 1 = .ok (.istore_n 3, 1) := by decide +kernel
theorem dc_R_dataBox_2 : decode bb_R_dataBox 2 = .ok (.iload_n 3, 1) := by decide +kernel
theorem dc_R_dataBox_3 : decode bb_R_dataBox 3 = .ok (.aload_n 0, 1) := by decide +kernel
theorem dc_R_dataBox_4 : decode bb_R_dataBox 4 = .ok (.getfield 64, 3) := by decide +kernel
theorem dc_R_dataBox_7 : decode bb_R_dataBox 7 = .ok (.if_icmp .ge 67, 3) := by decide +kernel
theorem dc_R_dataBox_10 : decode bb_R_dataBox 10 = .ok (.aload_n 0, 1) := by decide +kernel
theorem dc_R_dataBox_11 : decode bb_R_dataBox 11 = .ok (.getfield 25, 3) := by decide +kernel
theorem dc_R_dataBox_14 : decode bb_R_dataBox 14 = .ok (.iload_n 3, 1) := by decide +kernel
theorem dc_R_dataBox_15 : decode bb_R_dataBox 15 = .ok (.iaload, 1) := by decide +kernel
theorem dc_R_dataBox_16 : decode bb_R_dataBox 16 = .ok (.ifCond .ne 52, 3) := by decide +kernel
theorem dc_R_dataBox_19 : decode bb_R_dataBox 19 = .ok (.aload_n 0, 1) := by decide +kernel
theorem dc_R_dataBox_20 : decode bb_R_dataBox 20 = .ok (.getfield 19, 3) := by decide +kernel
theorem dc_R_dataBox_23 : decode bb_R_dataBox 23 = .ok (.iload_n 3, 1) := by decide +kernel
theorem dc_R_dataBox_24 : decode bb_R_dataBox 24 = .ok (.iaload, 1) := by decide +kernel
theorem dc_R_dataBox_25 : decode bb_R_dataBox 25 = .ok (.bipush 68, 2) := by decide +kernel
theorem dc_R_dataBox_27 : decode bb_R_dataBox 27 = .ok (.if_icmp .ne 41, 3) := by decide +kernel
theorem dc_R_dataBox_30 : decode bb_R_dataBox 30 = .ok (.aload_n 0, 1) := by decide +kernel
theorem dc_R_dataBox_31 : decode bb_R_dataBox 31 = .ok (.getfield 13, 3) := by decide +kernel
theorem dc_R_dataBox_34 : decode bb_R_dataBox 34 = .ok (.iload_n 3, 1) := by decide +kernel
theorem dc_R_dataBox_35 : decode bb_R_dataBox 35 = .ok (.iaload, 1) := by decide +kernel
theorem dc_R_dataBox_36 : decode bb_R_dataBox 36 = .ok (.aload_n 0, 1) := by decide +kernel
theorem dc_R_dataBox_37 : decode bb_R_dataBox 37 = .ok (.getfield 22, 3) := by decide +kernel
theorem dc_R_dataBox_40 : decode bb_R_dataBox 40 = .ok (.iload_n 3, 1) := by decide +kernel
theorem dc_R_dataBox_41 : decode bb_R_dataBox 41 = .ok (.iaload, 1) := by decide +kernel
theorem dc_R_dataBox_42 : decode bb_R_dataBox 42 = .ok (.iadd, 1) := by decide +kernel
theorem dc_R_dataBox_43 : decode bb_R_dataBox 43 = .ok (.iload_n 1, 1) := by decide +kernel
theorem dc_R_dataBox_44 : decode bb_R_dataBox 44 = .ok (.if_icmp .gt 24, 3) := by decide +kernel
theorem dc_R_dataBox_47 : decode bb_R_dataBox 47 = .ok (.iload_n 1, 1) := by decide +kernel
theorem dc_R_dataBox_48 : decode bb_R_dataBox 48 = .ok (.iload_n 2, 1) := by decide +kernel
theorem dc_R_dataBox_49 : decode bb_R_dataBox 49 = .ok (.iadd, 1) := by decide +kernel
theorem dc_R_dataBox_50 : decode bb_R_dataBox 50 = .ok (.aload_n 0, 1) := by decide +kernel
theorem dc_R_dataBox_51 : decode bb_R_dataBox 51 = .ok (.getfield 13, 3) := by decide +kernel
theorem dc_R_dataBox_54 : decode bb_R_dataBox 54 = .ok (.iload_n 3, 1) := by decide +kernel
theorem dc_R_dataBox_55 : decode bb_R_dataBox 55 = .ok (.iaload, 1) := by decide +kernel
theorem dc_R_dataBox_56 : decode bb_R_dataBox 56 = .ok (.aload_n 0, 1) := by decide +kernel
theorem dc_R_dataBox_57 : decode bb_R_dataBox 57 = .ok (.getfield 16, 3) := by decide +kernel
theorem dc_R_dataBox_60 : decode bb_R_dataBox 60 = .ok (.iload_n 3, 1) := by decide +kernel
theorem dc_R_dataBox_61 : decode bb_R_dataBox 61 = .ok (.iaload, 1) := by decide +kernel
theorem dc_R_dataBox_62 : decode bb_R_dataBox 62 = .ok (.iadd, 1) := by decide +kernel
theorem dc_R_dataBox_63 : decode bb_R_dataBox 63 = .ok (.if_icmp .gt 5, 3) := by decide +kernel
theorem dc_R_dataBox_66 : decode bb_R_dataBox 66 = .ok (.iload_n 3, 1) := by decide +kernel
theorem dc_R_dataBox_67 : decode bb_R_dataBox 67 = .ok (.ireturn, 1) := by decide +kernel
theorem dc_R_dataBox_68 : decode bb_R_dataBox 68 = .ok (.iinc 3 1, 3) := by decide +kernel
theorem dc_R_dataBox_71 : decode bb_R_dataBox 71 = .ok (.goto (-69), 3) := by decide +kernel
theorem dc_R_dataBox_74 : decode bb_R_dataBox 74 = .ok (.iconst (-1), 1) := by decide +kernel
theorem dc_R_dataBox_75 : decode bb_R_dataBox 75 = .ok (.ireturn, 1) := by decide +kernel
