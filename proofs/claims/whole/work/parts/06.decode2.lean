theorem dc_K_everyChunkRowHasSamples_0 : decode bb_K_everyChunkRowHasSamples 0 = .ok (.iconst 0, 1) := by decide +kernel
theorem dc_K_everyChunkRowHasSamples_1 : decode bb_K_everyChunkRowHasSamples 1 = .ok (.istore_n 1, 1) := by decide +kernel
theorem dc_K_everyChunkRowHasSamples_2 : decode bb_K_everyChunkRowHasSamples 2 = .ok (.iload_n 1, 1) := by decide +kernel
theorem dc_K_everyChunkRowHasSamples_3 : decode bb_K_everyChunkRowHasSamples 3 = .ok (.aload_n 0, 1) := by decide +kernel
theorem dc_K_everyChunkRowHasSamples_4 : decode bb_K_everyChunkRowHasSamples 4 = .ok (.getfield 27, 3) := by decide +kernel
theorem dc_K_everyChunkRowHasSamples_7 : decode bb_K_everyChunkRowHasSamples 7 = .ok (.invokevirtual 73, 3) := by decide +kernel
theorem dc_K_everyChunkRowHasSamples_10 : decode bb_K_everyChunkRowHasSamples 10 = .ok (.if_icmp .ge 23, 3) := by decide +kernel
theorem dc_K_everyChunkRowHasSamples_13 : decode bb_K_everyChunkRowHasSamples 13 = .ok (.aload_n 0, 1) := by decide +kernel
theorem dc_K_everyChunkRowHasSamples_14 : decode bb_K_everyChunkRowHasSamples 14 = .ok (.getfield 27, 3) := by decide +kernel
theorem dc_K_everyChunkRowHasSamples_17 : decode bb_K_everyChunkRowHasSamples 17 = .ok (.iload_n 1, 1) := by decide +kernel
theorem dc_K_everyChunkRowHasSamples_18 : decode bb_K_everyChunkRowHasSamples 18 = .ok (.iconst 1, 1) := by decide +kernel
theorem dc_K_everyChunkRowHasSamples_19 : decode bb_K_everyChunkRowHasSamples 19 = .ok (.invokevirtual 77, 3) := by decide +kernel
theorem dc_K_everyChunkRowHasSamples_22 : decode bb_K_everyChunkRowHasSamples 22 = .ok (.ifCond .ne 5, 3) := by decide +kernel
theorem dc_K_everyChunkRowHasSamples_25 : decode bb_K_everyChunkRowHasSamples 25 = .ok (.iconst 0, 1) := by decide +kernel
theorem dc_K_everyChunkRowHasSamples_26 : decode bb_K_everyChunkRowHasSamples 26 = .ok (.ireturn, 1) := by decide +kernel
theorem dc_K_everyChunkRowHasSamples_27 : decode bb_K_everyChunkRowHasSamples 27 = .ok (.iinc 1 1, 3) := by decide +kernel
theorem dc_K_everyChunkRowHasSamples_30 : decode bb_K_everyChunkRowHasSamples 30 = .ok (.goto (-28), 3) := by decide +kernel
theorem dc_K_everyChunkRowHasSamples_33 : decode bb_K_everyChunkRowHasSamples 33 = .ok (.iconst 1, 1) := by decide +kernel
theorem dc_K_everyChunkRowHasSamples_34 : decode bb_K_everyChunkRowHasSamples 34 = .ok (.ireturn, 1) := by decide +kernel
theorem dc_K_countsHold_0 : decode bb_K_countsHold 0 = .ok (.aload_n 0, 1) := by decide +kernel
theorem dc_K_countsHold_1 : decode bb_K_countsHold 1 = .ok (.getfield 42, 3) := by decide +kernel
theorem dc_K_countsHold_4 : decode bb_K_countsHold 4 = .ok (.invokevirtual 86, 3) := by decide +kernel
theorem dc_K_countsHold_7 : decode bb_K_countsHold 7 = .ok (.istore_n 1, 1) := by decide +kernel
theorem dc_K_countsHold_8 : decode bb_K_countsHold 8 = .ok (.aload_n 0, 1) := by decide +kernel
theorem dc_K_countsHold_9 : decode bb_K_countsHold 9 = .ok (.getfield 20, 3) := by decide +kernel
theorem dc_K_countsHold_12 : decode bb_K_countsHold 12 = .ok (.invokevirtual 88, 3) := by decide +kernel
theorem dc_K_countsHold_15 : decode bb_K_countsHold 15 = .ok (.iload_n 1, 1) := by decide +kernel
theorem dc_K_countsHold_16 : decode bb_K_countsHold 16 = .ok (.if_icmp .ne 51, 3) := by decide +kernel
theorem dc_K_countsHold_19 : decode bb_K_countsHold 19 = .ok (.aload_n 0, 1) := by decide +kernel
theorem dc_K_countsHold_20 : decode bb_K_countsHold 20 = .ok (.getfield 24, 3) := by decide +kernel
theorem dc_K_countsHold_23 : decode bb_K_countsHold 23 = .ok (.invokevirtual 91, 3) := by decide +kernel
theorem dc_K_countsHold_26 : decode bb_K_countsHold 26 = .ok (.ifCond .eq 14, 3) := by decide +kernel
theorem dc_K_countsHold_29 : decode bb_K_countsHold 29 = .ok (.aload_n 0, 1) := by decide +kernel
theorem dc_K_countsHold_30 : decode bb_K_countsHold 30 = .ok (.getfield 24, 3) := by decide +kernel
theorem dc_K_countsHold_33 : decode bb_K_countsHold 33 = .ok (.invokevirtual 88, 3) := by decide +kernel
theorem dc_K_countsHold_36 : decode bb_K_countsHold 36 = .ok (.iload_n 1, 1) := by decide +kernel
theorem dc_K_countsHold_37 : decode bb_K_countsHold 37 = .ok (.if_icmp .ne 30, 3) := by decide +kernel
theorem dc_K_countsHold_40 : decode bb_K_countsHold 40 = .ok (.aload_n 0, 1) := by decide +kernel
theorem dc_K_countsHold_41 : decode bb_K_countsHold 41 = .ok (.invokevirtual 94, 3) := by decide +kernel
theorem dc_K_countsHold_44 : decode bb_K_countsHold 44 = .ok (.ifCond .eq 23, 3) := by decide +kernel
theorem dc_K_countsHold_47 : decode bb_K_countsHold 47 = .ok (.aload_n 0, 1) := by decide +kernel
theorem dc_K_countsHold_48 : decode bb_K_countsHold 48 = .ok (.invokevirtual 97, 3) := by decide +kernel
theorem dc_K_countsHold_51 : decode bb_K_countsHold 51 = .ok (.iload_n 1, 1) := by decide +kernel
theorem dc_K_countsHold_52 : decode bb_K_countsHold 52 = .ok (.if_icmp .ne 15, 3) := by decide +kernel
theorem dc_K_countsHold_55 : decode bb_K_countsHold 55 = .ok (.aload_n 0, 1) := by decide +kernel
theorem dc_K_countsHold_56 : decode bb_K_countsHold 56 = .ok (.iload_n 1, 1) := by decide +kernel
theorem dc_K_countsHold_57 : decode bb_K_countsHold 57 = .ok (.invokevirtual 100, 3) := by decide +kernel
theorem dc_K_countsHold_60 : decode bb_K_countsHold 60 = .ok (.ifCond .eq 7, 3) := by decide +kernel
theorem dc_K_countsHold_63 : decode bb_K_countsHold 63 = .ok (.iconst 1, 1) := by decide +kernel
theorem dc_K_countsHold_64 : decode bb_K_countsHold 64 = .ok (.goto 4, 3) := by decide +kernel
theorem dc_K_countsHold_67 : decode bb_K_countsHold 67 = .ok (.iconst 0, 1) := by decide +kernel
theorem dc_K_countsHold_68 : decode bb_K_countsHold 68 = .ok (.ireturn, 1) := by decide +kernel
theorem dc_Z_count_0 : decode bb_Z_count 0 = .ok (.aload_n 0, 1) := by decide +kernel
theorem dc_Z_count_1 : decode bb_Z_count 1 = .ok (.getfield 23, 3) := by decide +kernel
theorem dc_Z_count_4 : decode bb_Z_count 4 = .ok (.ireturn, 1) := by decide +kernel
theorem dc_T_totalOfCounts_0 : decode bb_T_totalOfCounts 0 = .ok (.iconst 0, 1) := by decide +kernel
theorem dc_T_totalOfCounts_1 : decode bb_T_totalOfCounts 1 = .ok (.istore_n 1, 1) := by decide +kernel
theorem dc_T_totalOfCounts_2 : decode bb_T_totalOfCounts 2 = .ok (.iconst 0, 1) := by decide +kernel
theorem dc_T_totalOfCounts_3 : decode bb_T_totalOfCounts 3 = .ok (.istore_n 2, 1) := by decide +kernel
theorem dc_T_totalOfCounts_4 : decode bb_T_totalOfCounts 4 = .ok (.iload_n 2, 1) := by decide +kernel
theorem dc_T_totalOfCounts_5 : decode bb_T_totalOfCounts 5 = .ok (.aload_n 0, 1) := by decide +kernel
theorem dc_T_totalOfCounts_6 : decode bb_T_totalOfCounts 6 = .ok (.getfield 27, 3) := by decide +kernel
theorem dc_T_totalOfCounts_9 : decode bb_T_totalOfCounts 9 = .ok (.if_icmp .ge 18, 3) := by decide +kernel
theorem dc_T_totalOfCounts_12 : decode bb_T_totalOfCounts 12 = .ok (.iload_n 1, 1) := by decide +kernel
theorem dc_T_totalOfCounts_13 : decode bb_T_totalOfCounts 13 = .ok (.aload_n 0, 1) := by decide +kernel
theorem dc_T_totalOfCounts_14 : decode bb_T_totalOfCounts 14 = .ok (.iload_n 2, 1) := by decide +kernel
theorem dc_T_totalOfCounts_15 : decode bb_T_totalOfCounts 15 = .ok (.iconst 0, 1) := by decide +kernel
theorem dc_T_totalOfCounts_16 : decode bb_T_totalOfCounts 16 = .ok (.invokevirtual 44, 3) := by decide +kernel
theorem dc_T_totalOfCounts_19 : decode bb_T_totalOfCounts 19 = .ok (.iadd, 1) := by decide +kernel
theorem dc_T_totalOfCounts_20 : decode bb_T_totalOfCounts 20 = .ok (.istore_n 1, 1) := by decide +kernel
theorem dc_T_totalOfCounts_21 : decode bb_T_totalOfCounts 21 = .ok (.iinc 2 1, 3) := by decide +kernel
theorem dc_T_totalOfCounts_24 : decode bb_T_totalOfCounts 24 = .ok (.goto (-20), 3) := by decide +kernel
theorem dc_T_totalOfCounts_27 : decode bb_T_totalOfCounts 27 = .ok (.iload_n 1, 1) := by decide +kernel
theorem dc_T_totalOfCounts_28 : decode bb_T_totalOfCounts 28 = .ok (.ireturn, 1) := by decide +kernel
theorem dc_T_isPresent_0 : decode bb_T_isPresent 0 = .ok (.aload_n 0, 1) := by decide +kernel
theorem dc_T_isPresent_1 : decode bb_T_isPresent 1 = .ok (.getfield 13, 3) := by decide +kernel
theorem dc_T_isPresent_4 : decode bb_T_isPresent 4 = .ok (.ireturn, 1) := by decide +kernel
theorem dc_K_chunkRowsMeetChunks_0 : decode bb_K_chunkRowsMeetChunks 0 = .ok (.aload_n 0, 1) := by decide +kernel
theorem dc_K_chunkRowsMeetChunks_1 : decode bb_K_chunkRowsMeetChunks 1 = .ok (.getfield 30, 3) := by decide +kernel
theorem dc_K_chunkRowsMeetChunks_4 : decode bb_K_chunkRowsMeetChunks 4 = .ok (.invokevirtual 73, 3) := by decide +kernel
theorem dc_K_chunkRowsMeetChunks_7 : decode bb_K_chunkRowsMeetChunks 7 = .ok (.ifCond .le 15, 3) := by decide +kernel
theorem dc_K_chunkRowsMeetChunks_10 : decode bb_K_chunkRowsMeetChunks 10 = .ok (.aload_n 0, 1) := by decide +kernel
theorem dc_K_chunkRowsMeetChunks_11 : decode bb_K_chunkRowsMeetChunks 11 = .ok (.getfield 27, 3) := by decide +kernel
theorem dc_K_chunkRowsMeetChunks_14 : decode bb_K_chunkRowsMeetChunks 14 = .ok (.invokevirtual 73, 3) := by decide +kernel
theorem dc_K_chunkRowsMeetChunks_17 : decode bb_K_chunkRowsMeetChunks 17 = .ok (.ifCond .ne 5, 3) := by decide +kernel
theorem dc_K_chunkRowsMeetChunks_20 : decode bb_K_chunkRowsMeetChunks 20 = .ok (.iconst 0, 1) := by decide +kernel
theorem dc_K_chunkRowsMeetChunks_21 : decode bb_K_chunkRowsMeetChunks 21 = .ok (.ireturn, 1) := by decide +kernel
theorem dc_K_chunkRowsMeetChunks_22 : decode bb_K_chunkRowsMeetChunks 22 = .ok (.iconst 0, 1) := by decide +kernel
theorem dc_K_chunkRowsMeetChunks_23 : decode bb_K_chunkRowsMeetChunks 23 = .ok (.istore_n 1, 1) := by decide +kernel
theorem dc_K_chunkRowsMeetChunks_24 : decode bb_K_chunkRowsMeetChunks 24 = .ok (.iload_n 1, 1) := by decide +kernel
theorem dc_K_chunkRowsMeetChunks_25 : decode bb_K_chunkRowsMeetChunks 25 = .ok (.aload_n 0, 1) := by decide +kernel
theorem dc_K_chunkRowsMeetChunks_26 : decode bb_K_chunkRowsMeetChunks 26 = .ok (.getfield 27, 3) := by decide +kernel
theorem dc_K_chunkRowsMeetChunks_29 : decode bb_K_chunkRowsMeetChunks 29 = .ok (.invokevirtual 73, 3) := by decide +kernel
theorem dc_K_chunkRowsMeetChunks_32 : decode bb_K_chunkRowsMeetChunks 32 = .ok (.if_icmp .ge 30, 3) := by decide +kernel
theorem dc_K_chunkRowsMeetChunks_35 : decode bb_K_chunkRowsMeetChunks 35 = .ok (.aload_n 0, 1) := by decide +kernel
theorem dc_K_chunkRowsMeetChunks_36 : decode bb_K_chunkRowsMeetChunks 36 = .ok (.getfield 27, 3) := by decide +kernel
theorem dc_K_chunkRowsMeetChunks_39 : decode bb_K_chunkRowsMeetChunks 39 = .ok (.iload_n 1, 1) := by decide +kernel
theorem dc_K_chunkRowsMeetChunks_40 : decode bb_K_chunkRowsMeetChunks 40 = .ok (.iconst 0, 1) := by decide +kernel
theorem dc_K_chunkRowsMeetChunks_41 : decode bb_K_chunkRowsMeetChunks 41 = .ok (.invokevirtual 77, 3) := by decide +kernel
theorem dc_K_chunkRowsMeetChunks_44 : decode bb_K_chunkRowsMeetChunks 44 = .ok (.aload_n 0, 1) := by decide +kernel
theorem dc_K_chunkRowsMeetChunks_45 : decode bb_K_chunkRowsMeetChunks 45 = .ok (.getfield 30, 3) := by decide +kernel
theorem dc_K_chunkRowsMeetChunks_48 : decode bb_K_chunkRowsMeetChunks 48 = .ok (.invokevirtual 73, 3) := by decide +kernel
theorem dc_K_chunkRowsMeetChunks_51 : decode bb_K_chunkRowsMeetChunks 51 = .ok (.if_icmp .le 5, 3) := by decide +kernel
theorem dc_K_chunkRowsMeetChunks_54 : decode bb_K_chunkRowsMeetChunks 54 = .ok (.iconst 0, 1) := by decide +kernel
theorem dc_K_chunkRowsMeetChunks_55 : decode bb_K_chunkRowsMeetChunks 55 = .ok (.ireturn, 1) := by decide +kernel
theorem dc_K_chunkRowsMeetChunks_56 : decode bb_K_chunkRowsMeetChunks 56 = .ok (.iinc 1 1, 3) := by decide +kernel
theorem dc_K_chunkRowsMeetChunks_59 : decode bb_K_chunkRowsMeetChunks 59 = .ok (.goto (-35), 3) := by decide +kernel
theorem dc_K_chunkRowsMeetChunks_62 : decode bb_K_chunkRowsMeetChunks 62 = .ok (.iconst 1, 1) := by decide +kernel
theorem dc_K_chunkRowsMeetChunks_63 : decode bb_K_chunkRowsMeetChunks 63 = .ok (.ireturn, 1) := by decide +kernel
theorem dc_K_samplesInChunks_0 : decode bb_K_samplesInChunks 0 = .ok (.iconst 0, 1) := by decide +kernel
theorem dc_K_samplesInChunks_1 : decode bb_K_samplesInChunks 1 = .ok (.istore_n 1, 1) := by decide +kernel
theorem dc_K_samplesInChunks_2 : decode bb_K_samplesInChunks 2 = .ok (.iconst 0, 1) := by decide +kernel
theorem dc_K_samplesInChunks_3 : decode bb_K_samplesInChunks 3 = .ok (.istore_n 2, 1) := by decide +kernel
theorem dc_K_samplesInChunks_4 : decode bb_K_samplesInChunks 4 = .ok (.iload_n 2, 1) := by decide +kernel
theorem dc_K_samplesInChunks_5 : decode bb_K_samplesInChunks 5 = .ok (.aload_n 0, 1) := by decide +kernel
theorem dc_K_samplesInChunks_6 : decode bb_K_samplesInChunks 6 = .ok (.getfield 27, 3) := by decide +kernel
theorem dc_K_samplesInChunks_9 : decode bb_K_samplesInChunks 9 = .ok (.invokevirtual 73, 3) := by decide +kernel
theorem dc_K_samplesInChunks_12 : decode bb_K_samplesInChunks 12 = .ok (.if_icmp .ge 82, 3) := by decide +kernel
theorem dc_K_samplesInChunks_15 : decode bb_K_samplesInChunks 15 = .ok (.iload_n 2, 1) := by decide +kernel
theorem dc_K_samplesInChunks_16 : decode bb_K_samplesInChunks 16 = .ok (.iconst 1, 1) := by decide +kernel
theorem dc_K_samplesInChunks_17 : decode bb_K_samplesInChunks 17 = .ok (.iadd, 1) := by decide +kernel
theorem dc_K_samplesInChunks_18 : decode bb_K_samplesInChunks 18 = .ok (.aload_n 0, 1) := by decide +kernel
theorem dc_K_samplesInChunks_19 : decode bb_K_samplesInChunks 19 = .ok (.getfield 27, 3) := by decide +kernel
theorem dc_K_samplesInChunks_22 : decode bb_K_samplesInChunks 22 = .ok (.invokevirtual 73, 3) := by decide +kernel
theorem dc_K_samplesInChunks_25 : decode bb_K_samplesInChunks 25 = .ok (.if_icmp .ne 7, 3) := by decide +kernel
theorem dc_K_samplesInChunks_28 : decode bb_K_samplesInChunks 28 = .ok (.iconst 1, 1) := by decide +kernel
theorem dc_K_samplesInChunks_29 : decode bb_K_samplesInChunks 29 = .ok (.goto 4, 3) := by decide +kernel
theorem dc_K_samplesInChunks_32 : decode bb_K_samplesInChunks 32 = .ok (.iconst 0, 1) := by decide +kernel
theorem dc_K_samplesInChunks_33 : decode bb_K_samplesInChunks 33 = .ok (.istore_n 3, 1) := by decide +kernel
theorem dc_K_samplesInChunks_34 : decode bb_K_samplesInChunks 34 = .ok (.iload_n 3, 1) := by decide +kernel
theorem dc_K_samplesInChunks_35 : decode bb_K_samplesInChunks 35 = .ok (.ifCond .eq 15, 3) := by decide +kernel
theorem dc_K_samplesInChunks_38 : decode bb_K_samplesInChunks 38 = .ok (.aload_n 0, 1) := by decide +kernel
theorem dc_K_samplesInChunks_39 : decode bb_K_samplesInChunks 39 = .ok (.getfield 30, 3) := by decide +kernel
theorem dc_K_samplesInChunks_42 : decode bb_K_samplesInChunks 42 = .ok (.invokevirtual 73, 3) := by decide +kernel
theorem dc_K_samplesInChunks_45 : decode bb_K_samplesInChunks 45 = .ok (.iconst 1, 1) := by decide +kernel
theorem dc_K_samplesInChunks_46 : decode bb_K_samplesInChunks 46 = .ok (.iadd, 1) := by decide +kernel
theorem dc_K_samplesInChunks_47 : decode bb_K_samplesInChunks 47 = .ok (.goto 14, 3) := by decide +kernel
theorem dc_K_samplesInChunks_50 : decode bb_K_samplesInChunks 50 = .ok (.aload_n 0, 1) := by decide +kernel
theorem dc_K_samplesInChunks_51 : decode bb_K_samplesInChunks 51 = .ok (.getfield 27, 3) := by decide +kernel
theorem dc_K_samplesInChunks_54 : decode bb_K_samplesInChunks 54 = .ok (.iload_n 2, 1) := by decide +kernel
theorem dc_K_samplesInChunks_55 : decode bb_K_samplesInChunks 55 = .ok (.iconst 1, 1) := by decide +kernel
theorem dc_K_samplesInChunks_56 : decode bb_K_samplesInChunks 56 = .ok (.iadd, 1) := by decide +kernel
theorem dc_K_samplesInChunks_57 : decode bb_K_samplesInChunks 57 = .ok (.iconst 0, 1) := by decide +kernel
theorem dc_K_samplesInChunks_58 : decode bb_K_samplesInChunks 58 = .ok (.invokevirtual 77, 3) := by decide +kernel
theorem dc_K_samplesInChunks_61 : decode bb_K_samplesInChunks 61 = .ok (.istore 4, 2) := by decide +kernel
theorem dc_K_samplesInChunks_63 : decode bb_K_samplesInChunks 63 = .ok (.iload_n 1, 1) := by decide +kernel
theorem dc_K_samplesInChunks_64 : decode bb_K_samplesInChunks 64 = .ok (.iload 4, 2) := by decide +kernel
theorem dc_K_samplesInChunks_66 : decode bb_K_samplesInChunks 66 = .ok (.aload_n 0, 1) := by decide +kernel
theorem dc_K_samplesInChunks_67 : decode bb_K_samplesInChunks 67 = .ok (.getfield 27, 3) := by decide +kernel
theorem dc_K_samplesInChunks_70 : decode bb_K_samplesInChunks 70 = .ok (.iload_n 2, 1) := by decide +kernel
theorem dc_K_samplesInChunks_71 : decode bb_K_samplesInChunks 71 = .ok (.iconst 0, 1) := by decide +kernel
theorem dc_K_samplesInChunks_72 : decode bb_K_samplesInChunks 72 = .ok (.invokevirtual 77, 3) := by decide +kernel
theorem dc_K_samplesInChunks_75 : decode bb_K_samplesInChunks 75 = .ok (.isub, 1) := by decide +kernel
theorem dc_K_samplesInChunks_76 : decode bb_K_samplesInChunks 76 = .ok (.aload_n 0, 1) := by decide +kernel
theorem dc_K_samplesInChunks_77 : decode bb_K_samplesInChunks 77 = .ok (.getfield 27, 3) := by decide +kernel
theorem dc_K_samplesInChunks_80 : decode bb_K_samplesInChunks 80 = .ok (.iload_n 2, 1) := by decide +kernel
theorem dc_K_samplesInChunks_81 : decode bb_K_samplesInChunks 81 = .ok (.iconst 1, 1) := by decide +kernel
theorem dc_K_samplesInChunks_82 : decode bb_K_samplesInChunks 82 = .ok (.invokevirtual 77, 3) := by decide +kernel
theorem dc_K_samplesInChunks_85 : decode bb_K_samplesInChunks 85 = .ok (.imul, 1) := by decide +kernel
theorem dc_K_samplesInChunks_86 : decode bb_K_samplesInChunks 86 = .ok (.iadd, 1) := by decide +kernel
theorem dc_K_samplesInChunks_87 : decode bb_K_samplesInChunks 87 = .ok (.istore_n 1, 1) := by decide +kernel
theorem dc_K_samplesInChunks_88 : decode bb_K_samplesInChunks 88 = .ok (.iinc 2 1, 3) := by decide +kernel
theorem dc_K_samplesInChunks_91 : decode bb_K_samplesInChunks 91 = .ok (.goto (-87), 3) := by decide +kernel
theorem dc_K_samplesInChunks_94 : decode bb_K_samplesInChunks 94 = .ok (.iload_n 1, 1) := by decide +kernel
theorem dc_K_samplesInChunks_95 : decode bb_K_samplesInChunks 95 = .ok (.ireturn, 1) := by decide +kernel
theorem dc_K_syncsStayWithin_0 : decode bb_K_syncsStayWithin 0 = .ok (.iconst 0, 1) := by decide +kernel
theorem dc_K_syncsStayWithin_1 : decode bb_K_syncsStayWithin 1 = .ok (.istore_n 2, 1) := by decide +kernel
theorem dc_K_syncsStayWithin_2 : decode bb_K_syncsStayWithin 2 = .ok (.iload_n 2, 1) := by decide +kernel
theorem dc_K_syncsStayWithin_3 : decode bb_K_syncsStayWithin 3 = .ok (.aload_n 0, 1) := by decide +kernel
theorem dc_K_syncsStayWithin_4 : decode bb_K_syncsStayWithin 4 = .ok (.getfield 33, 3) := by decide +kernel
theorem dc_K_syncsStayWithin_7 : decode bb_K_syncsStayWithin 7 = .ok (.invokevirtual 73, 3) := by decide +kernel
theorem dc_K_syncsStayWithin_10 : decode bb_K_syncsStayWithin 10 = .ok (.if_icmp .ge 24, 3) := by decide +kernel
theorem dc_K_syncsStayWithin_13 : decode bb_K_syncsStayWithin 13 = .ok (.aload_n 0, 1) := by decide +kernel
theorem dc_K_syncsStayWithin_14 : decode bb_K_syncsStayWithin 14 = .ok (.getfield 33, 3) := by decide +kernel
theorem dc_K_syncsStayWithin_17 : decode bb_K_syncsStayWithin 17 = .ok (.iload_n 2, 1) := by decide +kernel
theorem dc_K_syncsStayWithin_18 : decode bb_K_syncsStayWithin 18 = .ok (.iconst 0, 1) := by decide +kernel
theorem dc_K_syncsStayWithin_19 : decode bb_K_syncsStayWithin 19 = .ok (.invokevirtual 77, 3) := by decide +kernel
theorem dc_K_syncsStayWithin_22 : decode bb_K_syncsStayWithin 22 = .ok (.iload_n 1, 1) := by decide +kernel
theorem dc_K_syncsStayWithin_23 : decode bb_K_syncsStayWithin 23 = .ok (.if_icmp .le 5, 3) := by decide +kernel
theorem dc_K_syncsStayWithin_26 : decode bb_K_syncsStayWithin 26 = .ok (.iconst 0, 1) := by decide +kernel
theorem dc_K_syncsStayWithin_27 : decode bb_K_syncsStayWithin 27 = .ok (.ireturn, 1) := by decide +kernel
theorem dc_K_syncsStayWithin_28 : decode bb_K_syncsStayWithin 28 = .ok (.iinc 2 1, 3) := by decide +kernel
theorem dc_K_syncsStayWithin_31 : decode bb_K_syncsStayWithin 31 = .ok (.goto (-29), 3) := by decide +kernel
theorem dc_K_syncsStayWithin_34 : decode bb_K_syncsStayWithin 34 = .ok (.iconst 1, 1) := by decide +kernel
theorem dc_K_syncsStayWithin_35 : decode bb_K_syncsStayWithin 35 = .ok (.ireturn, 1) := by decide +kernel
theorem dc_K_dataHolds_0 : decode bb_K_dataHolds 0 = .ok (.iconst 0, 1) := by decide +kernel
theorem dc_K_dataHolds_1 : decode bb_K_dataHolds 1 = .ok (.istore_n 1, 1) := by decide +kernel
theorem dc_K_dataHolds_2 : decode bb_K_dataHolds 2 = .ok (.iconst 0, 1) := by decide +kernel
theorem dc_K_dataHolds_3 : decode bb_K_dataHolds 3 = .ok (.istore_n 2, 1) := by decide +kernel
theorem dc_K_dataHolds_4 : decode bb_K_dataHolds 4 = .ok (.iconst 1, 1) := by decide +kernel
theorem dc_K_dataHolds_5 : decode bb_K_dataHolds 5 = .ok (.istore_n 3, 1) := by decide +kernel
theorem dc_K_dataHolds_6 : decode bb_K_dataHolds 6 = .ok (.iload_n 3, 1) := by decide +kernel
theorem dc_K_dataHolds_7 : decode bb_K_dataHolds 7 = .ok (.aload_n 0, 1) := by decide +kernel
theorem dc_K_dataHolds_8 : decode bb_K_dataHolds 8 = .ok (.getfield 30, 3) := by decide +kernel
theorem dc_K_dataHolds_11 : decode bb_K_dataHolds 11 = .ok (.invokevirtual 73, 3) := by decide +kernel
theorem dc_K_dataHolds_14 : decode bb_K_dataHolds 14 = .ok (.if_icmp .gt 85, 3) := by decide +kernel
theorem dc_K_dataHolds_17 : decode bb_K_dataHolds 17 = .ok (.aload_n 0, 1) := by decide +kernel
theorem dc_K_dataHolds_18 : decode bb_K_dataHolds 18 = .ok (.iload_n 2, 1) := by decide +kernel
theorem dc_K_dataHolds_19 : decode bb_K_dataHolds 19 = .ok (.iload_n 3, 1) := by decide +kernel
theorem dc_K_dataHolds_20 : decode bb_K_dataHolds 20 = .ok (.invokevirtual 104, 3) := by decide +kernel
theorem dc_K_dataHolds_23 : decode bb_K_dataHolds 23 = .ok (.istore_n 2, 1) := by decide +kernel
theorem dc_K_dataHolds_24 : decode bb_K_dataHolds 24 = .ok (.aload_n 0, 1) := by decide +kernel
theorem dc_K_dataHolds_25 : decode bb_K_dataHolds 25 = .ok (.getfield 27, 3) := by decide +kernel
theorem dc_K_dataHolds_28 : decode bb_K_dataHolds 28 = .ok (.iload_n 2, 1) := by decide +kernel
theorem dc_K_dataHolds_29 : decode bb_K_dataHolds 29 = .ok (.iconst 1, 1) := by decide +kernel
theorem dc_K_dataHolds_30 : decode bb_K_dataHolds 30 = .ok (.invokevirtual 77, 3) := by decide +kernel
theorem dc_K_dataHolds_33 : decode bb_K_dataHolds 33 = .ok (.istore 4, 2) := by decide +kernel
theorem dc_K_dataHolds_35 : decode bb_K_dataHolds 35 = .ok (.aload_n 0, 1) := by decide +kernel
theorem dc_K_dataHolds_36 : decode bb_K_dataHolds 36 = .ok (.getfield 30, 3) := by decide +kernel
theorem dc_K_dataHolds_39 : decode bb_K_dataHolds 39 = .ok (.iload_n 3, 1) := by decide +kernel
theorem dc_K_dataHolds_40 : decode bb_K_dataHolds 40 = .ok (.iconst 1, 1) := by decide +kernel
theorem dc_K_dataHolds_41 : decode bb_K_dataHolds 41 = .ok (.isub, 1) := by decide +kernel
theorem dc_K_dataHolds_42 : decode bb_K_dataHolds 42 = .ok (.invokevirtual 107, 3) := by decide +kernel
theorem dc_K_dataHolds_45 : decode bb_K_dataHolds 45 = .ok (.istore 5, 2) := by decide +kernel
theorem dc_K_dataHolds_47 : decode bb_K_dataHolds 47 = .ok (.aload_n 0, 1) := by decide +kernel
theorem dc_K_dataHolds_48 : decode bb_K_dataHolds 48 = .ok (.getfield 9, 3) := by decide +kernel
theorem dc_K_dataHolds_51 : decode bb_K_dataHolds 51 = .ok (.iload 5, 2) := by decide +kernel
theorem dc_K_dataHolds_53 : decode bb_K_dataHolds 53 = .ok (.invokevirtual 111, 3) := by decide +kernel
theorem dc_K_dataHolds_56 : decode bb_K_dataHolds 56 = .ok (.istore 6, 2) := by decide +kernel
theorem dc_K_dataHolds_58 : decode bb_K_dataHolds 58 = .ok (.iload 6, 2) := by decide +kernel
theorem dc_K_dataHolds_60 : decode bb_K_dataHolds 60 = .ok (.iconst (-1), 1) := by decide +kernel
theorem dc_K_dataHolds_61 : decode bb_K_dataHolds 61 = .ok (.if_icmp .eq 25, 3) := by decide +kernel
theorem dc_K_dataHolds_64 : decode bb_K_dataHolds 64 = .ok (.iload 5, 2) := by decide +kernel
theorem dc_K_dataHolds_66 : decode bb_K_dataHolds 66 = .ok (.aload_n 0, 1) := by decide +kernel
theorem dc_K_dataHolds_67 : decode bb_K_dataHolds 67 = .ok (.iload_n 1, 1) := by decide +kernel
theorem dc_K_dataHolds_68 : decode bb_K_dataHolds 68 = .ok (.iload 4, 2) := by decide +kernel
theorem dc_K_dataHolds_70 : decode bb_K_dataHolds 70 = .ok (.invokevirtual 114, 3) := by decide +kernel
theorem dc_K_dataHolds_73 : decode bb_K_dataHolds 73 = .ok (.iadd, 1) := by decide +kernel
theorem dc_K_dataHolds_74 : decode bb_K_dataHolds 74 = .ok (.aload_n 0, 1) := by decide +kernel
theorem dc_K_dataHolds_75 : decode bb_K_dataHolds 75 = .ok (.getfield 9, 3) := by decide +kernel
theorem dc_K_dataHolds_78 : decode bb_K_dataHolds 78 = .ok (.iload 6, 2) := by decide +kernel
theorem dc_K_dataHolds_80 : decode bb_K_dataHolds 80 = .ok (.invokevirtual 117, 3) := by decide +kernel
theorem dc_K_dataHolds_83 : decode bb_K_dataHolds 83 = .ok (.if_icmp .le 5, 3) := by decide +kernel
theorem dc_K_dataHolds_86 : decode bb_K_dataHolds 86 = .ok (.iconst 0, 1) := by decide +kernel
theorem dc_K_dataHolds_87 : decode bb_K_dataHolds 87 = .ok (.ireturn, 1) := by decide +kernel
theorem dc_K_dataHolds_88 : decode bb_K_dataHolds 88 = .ok (.iload_n 1, 1) := by decide +kernel
theorem dc_K_dataHolds_89 : decode bb_K_dataHolds 89 = .ok (.iload 4, 2) := by decide +kernel
theorem dc_K_dataHolds_91 : decode bb_K_dataHolds 91 = .ok (.iadd, 1) := by decide +kernel
theorem dc_K_dataHolds_92 : decode bb_K_dataHolds 92 = .ok (.istore_n 1, 1) := by decide +kernel
theorem dc_K_dataHolds_93 : decode bb_K_dataHolds 93 = .ok (.iinc 3 1, 3) := by decide +kernel
theorem dc_K_dataHolds_96 : decode bb_K_dataHolds 96 = .ok (.goto (-90), 3) := by decide +kernel
theorem dc_K_dataHolds_99 : decode bb_K_dataHolds 99 = .ok (.iconst 1, 1) := by decide +kernel
theorem dc_K_dataHolds_100 : decode bb_K_dataHolds 100 = .ok (.ireturn, 1) := by decide +kernel
theorem dc_K_chunkRow_0 : decode bb_K_chunkRow 0 = .ok (.iload_n 1, 1) := by decide +kernel
theorem dc_K_chunkRow_1 : decode bb_K_chunkRow 1 = .ok (.iconst 1, 1) := by decide +kernel
theorem dc_K_chunkRow_2 : decode bb_K_chunkRow 2 = .ok (.iadd, 1) := by decide +kernel
theorem dc_K_chunkRow_3 : decode bb_K_chunkRow 3 = .ok (.aload_n 0, 1) := by decide +kernel
theorem dc_K_chunkRow_4 : decode bb_K_chunkRow 4 = .ok (.getfield 27, 3) := by decide +kernel
theorem dc_K_chunkRow_7 : decode bb_K_chunkRow 7 = .ok (.invokevirtual 73, 3) := by decide +kernel
theorem dc_K_chunkRow_10 : decode bb_K_chunkRow 10 = .ok (.if_icmp .ge 22, 3) := by decide +kernel
theorem dc_K_chunkRow_13 : decode bb_K_chunkRow 13 = .ok (.aload_n 0, 1) := by decide +kernel
theorem dc_K_chunkRow_14 : decode bb_K_chunkRow 14 = .ok (.getfield 27, 3) := by decide +kernel
theorem dc_K_chunkRow_17 : decode bb_K_chunkRow 17 = .ok (.iload_n 1, 1) := by decide +kernel
theorem dc_K_chunkRow_18 : decode bb_K_chunkRow 18 = .ok (.iconst 1, 1) := by decide +kernel
theorem dc_K_chunkRow_19 : decode bb_K_chunkRow 19 = .ok (.iadd, 1) := by decide +kernel
theorem dc_K_chunkRow_20 : decode bb_K_chunkRow 20 = .ok (.iconst 0, 1) := by decide +kernel
theorem dc_K_chunkRow_21 : decode bb_K_chunkRow 21 = .ok (.invokevirtual 77, 3) := by decide +kernel
theorem dc_K_chunkRow_24 : decode bb_K_chunkRow 24 = .ok (.iload_n 2, 1) := by decide +kernel
theorem dc_K_chunkRow_25 : decode bb_K_chunkRow 25 = .ok (.if_icmp .gt 7, 3) := by decide +kernel
theorem dc_K_chunkRow_28 : decode bb_K_chunkRow 28 = .ok (.iconst 1, 1) := by decide +kernel
theorem dc_K_chunkRow_29 : decode bb_K_chunkRow 29 = .ok (.goto 4, 3) := by decide +kernel
theorem dc_K_chunkRow_32 : decode bb_K_chunkRow 32 = .ok (.iconst 0, 1) := by decide +kernel
theorem dc_K_chunkRow_33 : decode bb_K_chunkRow 33 = .ok (.istore_n 3, 1) := by decide +kernel
theorem dc_K_chunkRow_34 : decode bb_K_chunkRow 34 = .ok (.iload_n 3, 1) := by decide +kernel
theorem dc_K_chunkRow_35 : decode bb_K_chunkRow 35 = .ok (.ifCond .eq 9, 3) := by decide +kernel
theorem dc_K_chunkRow_38 : decode bb_K_chunkRow 38 = .ok (.iload_n 1, 1) := by decide +kernel
theorem dc_K_chunkRow_39 : decode bb_K_chunkRow 39 = .ok (.iconst 1, 1) := by decide +kernel
theorem dc_K_chunkRow_40 : decode bb_K_chunkRow 40 = .ok (.iadd, 1) := by decide +kernel
theorem dc_K_chunkRow_41 : decode bb_K_chunkRow 41 = .ok (.goto 4, 3) := by decide +kernel
theorem dc_K_chunkRow_44 : decode bb_K_chunkRow 44 = .ok (.iload_n 1, 1) := by decide +kernel
theorem dc_K_chunkRow_45 : decode bb_K_chunkRow 45 = .ok (.ireturn, 1) := by decide +kernel
theorem dc_T_number_0 : decode bb_T_number 0 = .ok (.aload_n 0, 1) := by decide +kernel
theorem dc_T_number_1 : decode bb_T_number 1 = .ok (.getfield 24, 3) := by decide +kernel
theorem dc_T_number_4 : decode bb_T_number 4 = .ok (.iconst 1, 1) := by decide +kernel
theorem dc_T_number_5 : decode bb_T_number 5 = .ok (.if_icmp .ne 12, 3) := by decide +kernel
theorem dc_T_number_8 : decode bb_T_number 8 = .ok (.aload_n 0, 1) := by decide +kernel
theorem dc_T_number_9 : decode bb_T_number 9 = .ok (.iload_n 1, 1) := by decide +kernel
theorem dc_T_number_10 : decode bb_T_number 10 = .ok (.iconst 0, 1) := by decide +kernel
theorem dc_T_number_11 : decode bb_T_number 11 = .ok (.invokevirtual 44, 3) := by decide +kernel
theorem dc_T_number_14 : decode bb_T_number 14 = .ok (.goto 20, 3) := by decide +kernel
theorem dc_T_number_17 : decode bb_T_number 17 = .ok (.aload_n 0, 1) := by decide +kernel
theorem dc_T_number_18 : decode bb_T_number 18 = .ok (.iload_n 1, 1) := by decide +kernel
theorem dc_T_number_19 : decode bb_T_number 19 = .ok (.iconst 0, 1) := by decide +kernel
theorem dc_T_number_20 : decode bb_T_number 20 = .ok (.invokevirtual 44, 3) := by decide +kernel
theorem dc_T_number_23 : decode bb_T_number 23 = .ok (.sipush 256, 3) := by decide +kernel
theorem dc_T_number_26 : decode bb_T_number 26 = .ok (.imul, 1) := by decide +kernel
theorem dc_T_number_27 : decode bb_T_number 27 = .ok (.aload_n 0, 1) := by decide +kernel
theorem dc_T_number_28 : decode bb_T_number 28 = .ok (.iload_n 1, 1) := by decide +kernel
theorem dc_T_number_29 : decode bb_T_number 29 = .ok (.iconst 1, 1) := by decide +kernel
theorem dc_T_number_30 : decode bb_T_number 30 = .ok (.invokevirtual 44, 3) := by decide +kernel
theorem dc_T_number_33 : decode bb_T_number 33 = .ok (.iadd, 1) := by decide +kernel
theorem dc_T_number_34 : decode bb_T_number 34 = .ok (.ireturn, 1) := by decide +kernel
theorem dc_L_dataAround_0 : decode bb_L_dataAround 0 = .ok (.iconst 0, 1) := by decide +kernel
theorem dc_L_dataAround_1 : decode bb_L_dataAround 1 = .ok (.istore_n 2, 1) := by decide +kernel
theorem dc_L_dataAround_2 : decode bb_L_dataAround 2 = .ok (.iload_n 2, 1) := by decide +kernel
theorem dc_L_dataAround_3 : decode bb_L_dataAround 3 = .ok (.aload_n 0, 1) := by decide +kernel
theorem dc_L_dataAround_4 : decode bb_L_dataAround 4 = .ok (.getfield 20, 3) := by decide +kernel
theorem dc_L_dataAround_7 : decode bb_L_dataAround 7 = .ok (.if_icmp .ge 73, 3) := by decide +kernel
theorem dc_L_dataAround_10 : decode bb_L_dataAround 10 = .ok (.aload_n 0, 1) := by decide +kernel
theorem dc_L_dataAround_11 : decode bb_L_dataAround 11 = .ok (.getfield 17, 3) := by decide +kernel
theorem dc_L_dataAround_14 : decode bb_L_dataAround 14 = .ok (.iconst 0, 1) := by decide +kernel
theorem dc_L_dataAround_15 : decode bb_L_dataAround 15 = .ok (.aaload, 1) := by decide +kernel
theorem dc_L_dataAround_16 : decode bb_L_dataAround 16 = .ok (.iload_n 2, 1) := by decide +kernel
theorem dc_L_dataAround_17 : decode bb_L_dataAround 17 = .ok (.iaload, 1) := by decide +kernel
theorem dc_L_dataAround_18 : decode bb_L_dataAround 18 = .ok (.aload_n 0, 1) := by decide +kernel
theorem dc_L_dataAround_19 : decode bb_L_dataAround 19 = .ok (.getfield 17, 3) := by decide +kernel
theorem dc_L_dataAround_22 : decode bb_L_dataAround 22 = .ok (.iconst 3, 1) := by decide +kernel
theorem dc_L_dataAround_23 : decode bb_L_dataAround 23 = .ok (.aaload, 1) := by decide +kernel
theorem dc_L_dataAround_24 : decode bb_L_dataAround 24 = .ok (.iload_n 2, 1) := by decide +kernel
theorem dc_L_dataAround_25 : decode bb_L_dataAround 25 = .ok (.iaload, 1) := by decide +kernel
theorem dc_L_dataAround_26 : decode bb_L_dataAround 26 = .ok (.iadd, 1) := by decide +kernel
theorem dc_L_dataAround_27 : decode bb_L_dataAround 27 = .ok (.istore_n 3, 1) := by decide +kernel
theorem dc_L_dataAround_28 : decode bb_L_dataAround 28 = .ok (.aload_n 0, 1) := by decide +kernel
theorem dc_L_dataAround_29 : decode bb_L_dataAround 29 = .ok (.getfield 17, 3) := by decide +kernel
theorem dc_L_dataAround_32 : decode bb_L_dataAround 32 = .ok (.iconst 0, 1) := by decide +kernel
theorem dc_L_dataAround_33 : decode bb_L_dataAround 33 = .ok (.aaload, 1) := by decide +kernel
theorem dc_L_dataAround_34 : decode bb_L_dataAround 34 = .ok (.iload_n 2, 1) := by decide +kernel
theorem dc_L_dataAround_35 : decode bb_L_dataAround 35 = .ok (.iaload, 1) := by decide +kernel
theorem dc_L_dataAround_36 : decode bb_L_dataAround 36 = .ok (.aload_n 0, 1) := by decide +kernel
theorem dc_L_dataAround_37 : decode bb_L_dataAround 37 = .ok (.getfield 17, 3) := by decide +kernel
theorem dc_L_dataAround_40 : decode bb_L_dataAround 40 = .ok (.iconst 1, 1) := by decide +kernel
theorem dc_L_dataAround_41 : decode bb_L_dataAround 41 = .ok (.aaload, 1) := by decide +kernel
theorem dc_L_dataAround_42 : decode bb_L_dataAround 42 = .ok (.iload_n 2, 1) := by decide +kernel
theorem dc_L_dataAround_43 : decode bb_L_dataAround 43 = .ok (.iaload, 1) := by decide +kernel
theorem dc_L_dataAround_44 : decode bb_L_dataAround 44 = .ok (.iadd, 1) := by decide +kernel
theorem dc_L_dataAround_45 : decode bb_L_dataAround 45 = .ok (.istore 4, 2) := by decide +kernel
theorem dc_L_dataAround_47 : decode bb_L_dataAround 47 = .ok (.aload_n 0, 1) := by decide +kernel
theorem dc_L_dataAround_48 : decode bb_L_dataAround 48 = .ok (.getfield 17, 3) := by decide +kernel
theorem dc_L_dataAround_51 : decode bb_L_dataAround 51 = .ok (.bipush 6, 2) := by decide +kernel
theorem dc_L_dataAround_53 : decode bb_L_dataAround 53 = .ok (.aaload, 1) := by decide +kernel
theorem dc_L_dataAround_54 : decode bb_L_dataAround 54 = .ok (.iload_n 2, 1) := by decide +kernel
theorem dc_L_dataAround_55 : decode bb_L_dataAround 55 = .ok (.iaload, 1) := by decide +kernel
theorem dc_L_dataAround_56 : decode bb_L_dataAround 56 = .ok (.bipush 68, 2) := by decide +kernel
theorem dc_L_dataAround_58 : decode bb_L_dataAround 58 = .ok (.if_icmp .ne 16, 3) := by decide +kernel
theorem dc_L_dataAround_61 : decode bb_L_dataAround 61 = .ok (.iload_n 3, 1) := by decide +kernel
theorem dc_L_dataAround_62 : decode bb_L_dataAround 62 = .ok (.iload_n 1, 1) := by decide +kernel
theorem dc_L_dataAround_63 : decode bb_L_dataAround 63 = .ok (.if_icmp .gt 11, 3) := by decide +kernel
theorem dc_L_dataAround_66 : decode bb_L_dataAround 66 = .ok (.iload_n 1, 1) := by decide +kernel
theorem dc_L_dataAround_67 : decode bb_L_dataAround 67 = .ok (.iload 4, 2) := by decide +kernel
theorem dc_L_dataAround_69 : decode bb_L_dataAround 69 = .ok (.if_icmp .gt 5, 3) := by decide +kernel
theorem dc_L_dataAround_72 : decode bb_L_dataAround 72 = .ok (.iload_n 2, 1) := by decide +kernel
theorem dc_L_dataAround_73 : decode bb_L_dataAround 73 = .ok (.ireturn, 1) := by decide +kernel
theorem dc_L_dataAround_74 : decode bb_L_dataAround 74 = .ok (.iinc 2 1, 3) := by decide +kernel
theorem dc_L_dataAround_77 : decode bb_L_dataAround 77 = .ok (.goto (-75), 3) := by decide +kernel
theorem dc_L_dataAround_80 : decode bb_L_dataAround 80 = .ok (.iconst (-1), 1) := by decide +kernel
theorem dc_L_dataAround_81 : decode bb_L_dataAround 81 = .ok (.ireturn, 1) := by decide +kernel
theorem dc_K_bytesOf_0 : decode bb_K_bytesOf 0 = .ok (.iconst 0, 1) := by decide +kernel
theorem dc_K_bytesOf_1 : decode bb_K_bytesOf 1 = .ok (.istore_n 3, 1) := by decide +kernel
theorem dc_K_bytesOf_2 : decode bb_K_bytesOf 2 = .ok (.iconst 0, 1) := by decide +kernel
theorem dc_K_bytesOf_3 : decode bb_K_bytesOf 3 = .ok (.istore 4, 2) := by decide +kernel
theorem dc_K_bytesOf_5 : decode bb_K_bytesOf 5 = .ok (.iload 4, 2) := by decide +kernel
theorem dc_K_bytesOf_7 : decode bb_K_bytesOf 7 = .ok (.iload_n 2, 1) := by decide +kernel
theorem dc_K_bytesOf_8 : decode bb_K_bytesOf 8 = .ok (.if_icmp .ge 23, 3) := by decide +kernel
theorem dc_K_bytesOf_11 : decode bb_K_bytesOf 11 = .ok (.iload_n 3, 1) := by decide +kernel
theorem dc_K_bytesOf_12 : decode bb_K_bytesOf 12 = .ok (.aload_n 0, 1) := by decide +kernel
theorem dc_K_bytesOf_13 : decode bb_K_bytesOf 13 = .ok (.getfield 42, 3) := by decide +kernel
theorem dc_K_bytesOf_16 : decode bb_K_bytesOf 16 = .ok (.iload_n 1, 1) := by decide +kernel
theorem dc_K_bytesOf_17 : decode bb_K_bytesOf 17 = .ok (.iload 4, 2) := by decide +kernel
theorem dc_K_bytesOf_19 : decode bb_K_bytesOf 19 = .ok (.iadd, 1) := by decide +kernel
theorem dc_K_bytesOf_20 : decode bb_K_bytesOf 20 = .ok (.invokevirtual 120, 3) := by decide +kernel
theorem dc_K_bytesOf_23 : decode bb_K_bytesOf 23 = .ok (.iadd, 1) := by decide +kernel
theorem dc_K_bytesOf_24 : decode bb_K_bytesOf 24 = .ok (.istore_n 3, 1) := by decide +kernel
theorem dc_K_bytesOf_25 : decode bb_K_bytesOf 25 = .ok (.iinc 4 1, 3) := by decide +kernel
theorem dc_K_bytesOf_28 : decode bb_K_bytesOf 28 = .ok (.goto (-23), 3) := by decide +kernel
theorem dc_K_bytesOf_31 : decode bb_K_bytesOf 31 = .ok (.iload_n 3, 1) := by decide +kernel
theorem dc_K_bytesOf_32 : decode bb_K_bytesOf 32 = .ok (.ireturn, 1) := by decide +kernel
theorem dc_Z_sizeOf_0 : decode bb_Z_sizeOf 0 = .ok (.aload_n 0, 1) := by decide +kernel
theorem dc_Z_sizeOf_1 : decode bb_Z_sizeOf 1 = .ok (.getfield 20, 3) := by decide +kernel
theorem dc_Z_sizeOf_4 : decode bb_Z_sizeOf 4 = .ok (.ifCond .ne 21, 3) := by decide +kernel
theorem dc_Z_sizeOf_7 : decode bb_Z_sizeOf 7 = .ok (.aload_n 0, 1) := by decide +kernel
theorem dc_Z_sizeOf_8 : decode bb_Z_sizeOf 8 = .ok (.getfield 7, 3) := by decide +kernel
theorem dc_Z_sizeOf_11 : decode bb_Z_sizeOf 11 = .ok (.aload_n 0, 1) := by decide +kernel
theorem dc_Z_sizeOf_12 : decode bb_Z_sizeOf 12 = .ok (.getfield 13, 3) := by decide +kernel
theorem dc_Z_sizeOf_15 : decode bb_Z_sizeOf 15 = .ok (.iconst 2, 1) := by decide +kernel
theorem dc_Z_sizeOf_16 : decode bb_Z_sizeOf 16 = .ok (.iadd, 1) := by decide +kernel
theorem dc_Z_sizeOf_17 : decode bb_Z_sizeOf 17 = .ok (.iload_n 1, 1) := by decide +kernel
theorem dc_Z_sizeOf_18 : decode bb_Z_sizeOf 18 = .ok (.iadd, 1) := by decide +kernel
theorem dc_Z_sizeOf_19 : decode bb_Z_sizeOf 19 = .ok (.invokevirtual 35, 3) := by decide +kernel
theorem dc_Z_sizeOf_22 : decode bb_Z_sizeOf 22 = .ok (.goto 7, 3) := by decide +kernel
theorem dc_Z_sizeOf_25 : decode bb_Z_sizeOf 25 = .ok (.aload_n 0, 1) := by decide +kernel
theorem dc_Z_sizeOf_26 : decode bb_Z_sizeOf 26 = .ok (.getfield 20, 3) := by decide +kernel
theorem dc_Z_sizeOf_29 : decode bb_Z_sizeOf 29 = .ok (.ireturn, 1) := by decide +kernel
theorem dc_K_spread_0 : decode bb_K_spread 0 = .ok (.aload_n 0, 1) := by decide +kernel
theorem dc_K_spread_1 : decode bb_K_spread 1 = .ok (.aload_n 0, 1) := by decide +kernel
theorem dc_K_spread_2 : decode bb_K_spread 2 = .ok (.getfield 42, 3) := by decide +kernel
theorem dc_K_spread_5 : decode bb_K_spread 5 = .ok (.invokevirtual 86, 3) := by decide +kernel
theorem dc_K_spread_8 : decode bb_K_spread 8 = .ok (.sipush 255, 3) := by decide +kernel
theorem dc_K_spread_11 : decode bb_K_spread 11 = .ok (.invokestatic 123, 3) := by decide +kernel
theorem dc_K_spread_14 : decode bb_K_spread 14 = .ok (.putfield 51, 3) := by decide +kernel
theorem dc_K_spread_17 : decode bb_K_spread 17 = .ok (.aload_n 0, 1) := by decide +kernel
theorem dc_K_spread_18 : decode bb_K_spread 18 = .ok (.invokevirtual 128, 3) := by decide +kernel
theorem dc_K_spread_21 : decode bb_K_spread 21 = .ok (.aload_n 0, 1) := by decide +kernel
theorem dc_K_spread_22 : decode bb_K_spread 22 = .ok (.invokevirtual 131, 3) := by decide +kernel
theorem dc_K_spread_25 : decode bb_K_spread 25 = .ok (.aload_n 0, 1) := by decide +kernel
theorem dc_K_spread_26 : decode bb_K_spread 26 = .ok (.invokevirtual 134, 3) := by decide +kernel
theorem dc_K_spread_29 : decode bb_K_spread 29 = .ok (.aload_n 0, 1) := by decide +kernel
theorem dc_K_spread_30 : decode bb_K_spread 30 = .ok (.invokevirtual 137, 3) := by decide +kernel
theorem dc_K_spread_33 : decode bb_K_spread 33 = .ok (.return_, 1) := by decide +kernel
theorem dc_J_min_0 : decode bb_J_min 0 = .ok (.iload_n 0, 1) := by decide +kernel
theorem dc_J_min_1 : decode bb_J_min 1 = .ok (.iload_n 1, 1) := by decide +kernel
theorem dc_J_min_2 : decode bb_J_min 2 = .ok (.if_icmp .gt 7, 3) := by decide +kernel
theorem dc_J_min_5 : decode bb_J_min 5 = .ok (.iload_n 0, 1) := by decide +kernel
theorem dc_J_min_6 : decode bb_J_min 6 = .ok (.goto 4, 3) := by decide +kernel
theorem dc_J_min_9 : decode bb_J_min 9 = .ok (.iload_n 1, 1) := by decide +kernel
theorem dc_J_min_10 : decode bb_J_min 10 = .ok (.ireturn, 1) := by decide +kernel
theorem dc_K_spreadDurations_0 : decode bb_K_spreadDurations 0 = .ok (.iconst 0, 1) := by decide +kernel
theorem dc_K_spreadDurations_1 : decode bb_K_spreadDurations 1 = .ok (.istore_n 1, 1) := by decide +kernel
theorem dc_K_spreadDurations_2 : decode bb_K_spreadDurations 2 = .ok (.iconst 0, 1) := by decide +kernel
theorem dc_K_spreadDurations_3 : decode bb_K_spreadDurations 3 = .ok (.istore_n 2, 1) := by decide +kernel
theorem dc_K_spreadDurations_4 : decode bb_K_spreadDurations 4 = .ok (.iconst 0, 1) := by decide +kernel
theorem dc_K_spreadDurations_5 : decode bb_K_spreadDurations 5 = .ok (.istore_n 3, 1) := by decide +kernel
theorem dc_K_spreadDurations_6 : decode bb_K_spreadDurations 6 = .ok (.iload_n 3, 1) := by decide +kernel
theorem dc_K_spreadDurations_7 : decode bb_K_spreadDurations 7 = .ok (.aload_n 0, 1) := by decide +kernel
theorem dc_K_spreadDurations_8 : decode bb_K_spreadDurations 8 = .ok (.getfield 20, 3) := by decide +kernel
theorem dc_K_spreadDurations_11 : decode bb_K_spreadDurations 11 = .ok (.invokevirtual 73, 3) := by decide +kernel
theorem dc_K_spreadDurations_14 : decode bb_K_spreadDurations 14 = .ok (.if_icmp .ge 88, 3) := by decide +kernel
theorem dc_K_spreadDurations_17 : decode bb_K_spreadDurations 17 = .ok (.aload_n 0, 1) := by decide +kernel
theorem dc_K_spreadDurations_18 : decode bb_K_spreadDurations 18 = .ok (.getfield 20, 3) := by decide +kernel
theorem dc_K_spreadDurations_21 : decode bb_K_spreadDurations 21 = .ok (.iload_n 3, 1) := by decide +kernel
theorem dc_K_spreadDurations_22 : decode bb_K_spreadDurations 22 = .ok (.iconst 1, 1) := by decide +kernel
theorem dc_K_spreadDurations_23 : decode bb_K_spreadDurations 23 = .ok (.invokevirtual 77, 3) := by decide +kernel
theorem dc_K_spreadDurations_26 : decode bb_K_spreadDurations 26 = .ok (.istore 4, 2) := by decide +kernel
theorem dc_K_spreadDurations_28 : decode bb_K_spreadDurations 28 = .ok (.iconst 0, 1) := by decide +kernel
theorem dc_K_spreadDurations_29 : decode bb_K_spreadDurations 29 = .ok (.istore 5, 2) := by decide +kernel
theorem dc_K_spreadDurations_31 : decode bb_K_spreadDurations 31 = .ok (.iload 5, 2) := by decide +kernel
theorem dc_K_spreadDurations_33 : decode bb_K_spreadDurations 33 = .ok (.aload_n 0, 1) := by decide +kernel
theorem dc_K_spreadDurations_34 : decode bb_K_spreadDurations 34 = .ok (.getfield 20, 3) := by decide +kernel
theorem dc_K_spreadDurations_37 : decode bb_K_spreadDurations 37 = .ok (.iload_n 3, 1) := by decide +kernel
theorem dc_K_spreadDurations_38 : decode bb_K_spreadDurations 38 = .ok (.iconst 0, 1) := by decide +kernel
theorem dc_K_spreadDurations_39 : decode bb_K_spreadDurations 39 = .ok (.invokevirtual 77, 3) := by decide +kernel
theorem dc_K_spreadDurations_42 : decode bb_K_spreadDurations 42 = .ok (.if_icmp .ge 54, 3) := by decide +kernel
theorem dc_K_spreadDurations_45 : decode bb_K_spreadDurations 45 = .ok (.iload_n 1, 1) := by decide +kernel
theorem dc_K_spreadDurations_46 : decode bb_K_spreadDurations 46 = .ok (.aload_n 0, 1) := by decide +kernel
theorem dc_K_spreadDurations_47 : decode bb_K_spreadDurations 47 = .ok (.getfield 51, 3) := by decide +kernel
theorem dc_K_spreadDurations_50 : decode bb_K_spreadDurations 50 = .ok (.if_icmp .ge 46, 3) := by decide +kernel
theorem dc_K_spreadDurations_53 : decode bb_K_spreadDurations 53 = .ok (.aload_n 0, 1) := by decide +kernel
theorem dc_K_spreadDurations_54 : decode bb_K_spreadDurations 54 = .ok (.getfield 48, 3) := by decide +kernel
theorem dc_K_spreadDurations_57 : decode bb_K_spreadDurations 57 = .ok (.bipush 6, 2) := by decide +kernel
theorem dc_K_spreadDurations_59 : decode bb_K_spreadDurations 59 = .ok (.aaload, 1) := by decide +kernel
theorem dc_K_spreadDurations_60 : decode bb_K_spreadDurations 60 = .ok (.iload_n 1, 1) := by decide +kernel
theorem dc_K_spreadDurations_61 : decode bb_K_spreadDurations 61 = .ok (.iload 4, 2) := by decide +kernel
theorem dc_K_spreadDurations_63 : decode bb_K_spreadDurations 63 = .ok (.iastore, 1) := by decide +kernel
theorem dc_K_spreadDurations_64 : decode bb_K_spreadDurations 64 = .ok (.aload_n 0, 1) := by decide +kernel
theorem dc_K_spreadDurations_65 : decode bb_K_spreadDurations 65 = .ok (.getfield 48, 3) := by decide +kernel
theorem dc_K_spreadDurations_68 : decode bb_K_spreadDurations 68 = .ok (.iconst 2, 1) := by decide +kernel
theorem dc_K_spreadDurations_69 : decode bb_K_spreadDurations 69 = .ok (.aaload, 1) := by decide +kernel
theorem dc_K_spreadDurations_70 : decode bb_K_spreadDurations 70 = .ok (.iload_n 1, 1) := by decide +kernel
theorem dc_K_spreadDurations_71 : decode bb_K_spreadDurations 71 = .ok (.iload_n 2, 1) := by decide +kernel
theorem dc_K_spreadDurations_72 : decode bb_K_spreadDurations 72 = .ok (.iastore, 1) := by decide +kernel
theorem dc_K_spreadDurations_73 : decode bb_K_spreadDurations 73 = .ok (.aload_n 0, 1) := by decide +kernel
theorem dc_K_spreadDurations_74 : decode bb_K_spreadDurations 74 = .ok (.getfield 48, 3) := by decide +kernel
theorem dc_K_spreadDurations_77 : decode bb_K_spreadDurations 77 = .ok (.iconst 3, 1) := by decide +kernel
theorem dc_K_spreadDurations_78 : decode bb_K_spreadDurations 78 = .ok (.aaload, 1) := by decide +kernel
theorem dc_K_spreadDurations_79 : decode bb_K_spreadDurations 79 = .ok (.iload_n 1, 1) := by decide +kernel
theorem dc_K_spreadDurations_80 : decode bb_K_spreadDurations 80 = .ok (.iload_n 2, 1) := by decide +kernel
theorem dc_K_spreadDurations_81 : decode bb_K_spreadDurations 81 = .ok (.iastore, 1) := by decide +kernel
theorem dc_K_spreadDurations_82 : decode bb_K_spreadDurations 82 = .ok (.iload_n 2, 1) := by decide +kernel
theorem dc_K_spreadDurations_83 : decode bb_K_spreadDurations 83 = .ok (.iload 4, 2) := by decide +kernel
theorem dc_K_spreadDurations_85 : decode bb_K_spreadDurations 85 = .ok (.iadd, 1) := by decide +kernel
theorem dc_K_spreadDurations_86 : decode bb_K_spreadDurations 86 = .ok (.istore_n 2, 1) := by decide +kernel
theorem dc_K_spreadDurations_87 : decode bb_K_spreadDurations 87 = .ok (.iinc 1 1, 3) := by decide +kernel
theorem dc_K_spreadDurations_90 : decode bb_K_spreadDurations 90 = .ok (.iinc 5 1, 3) := by decide +kernel
theorem dc_K_spreadDurations_93 : decode bb_K_spreadDurations 93 = .ok (.goto (-62), 3) := by decide +kernel
theorem dc_K_spreadDurations_96 : decode bb_K_spreadDurations 96 = .ok (.iinc 3 1, 3) := by decide +kernel
theorem dc_K_spreadDurations_99 : decode bb_K_spreadDurations 99 = .ok (.goto (-93), 3) := by decide +kernel
theorem dc_K_spreadDurations_102 : decode bb_K_spreadDurations 102 = .ok (.return_, 1) := by decide +kernel
theorem dc_K_spreadShifts_0 : decode bb_K_spreadShifts 0 = .ok (.iconst 0, 1) := by decide +kernel
theorem dc_K_spreadShifts_1 : decode bb_K_spreadShifts 1 = .ok (.istore_n 1, 1) := by decide +kernel
theorem dc_K_spreadShifts_2 : decode bb_K_spreadShifts 2 = .ok (.iconst 0, 1) := by decide +kernel
theorem dc_K_spreadShifts_3 : decode bb_K_spreadShifts 3 = .ok (.istore_n 2, 1) := by decide +kernel
theorem dc_K_spreadShifts_4 : decode bb_K_spreadShifts 4 = .ok (.iload_n 2, 1) := by decide +kernel
theorem dc_K_spreadShifts_5 : decode bb_K_spreadShifts 5 = .ok (.aload_n 0, 1) := by decide +kernel
theorem dc_K_spreadShifts_6 : decode bb_K_spreadShifts 6 = .ok (.getfield 24, 3) := by decide +kernel
theorem dc_K_spreadShifts_9 : decode bb_K_spreadShifts 9 = .ok (.invokevirtual 73, 3) := by decide +kernel
theorem dc_K_spreadShifts_12 : decode bb_K_spreadShifts 12 = .ok (.if_icmp .ge 66, 3) := by decide +kernel
theorem dc_K_spreadShifts_15 : decode bb_K_spreadShifts 15 = .ok (.aload_n 0, 1) := by decide +kernel
theorem dc_K_spreadShifts_16 : decode bb_K_spreadShifts 16 = .ok (.getfield 24, 3) := by decide +kernel
theorem dc_K_spreadShifts_19 : decode bb_K_spreadShifts 19 = .ok (.iload_n 2, 1) := by decide +kernel
theorem dc_K_spreadShifts_20 : decode bb_K_spreadShifts 20 = .ok (.iconst 1, 1) := by decide +kernel
theorem dc_K_spreadShifts_21 : decode bb_K_spreadShifts 21 = .ok (.invokevirtual 77, 3) := by decide +kernel
theorem dc_K_spreadShifts_24 : decode bb_K_spreadShifts 24 = .ok (.i2b, 1) := by decide +kernel
theorem dc_K_spreadShifts_25 : decode bb_K_spreadShifts 25 = .ok (.istore_n 3, 1) := by decide +kernel
theorem dc_K_spreadShifts_26 : decode bb_K_spreadShifts 26 = .ok (.iconst 0, 1) := by decide +kernel
theorem dc_K_spreadShifts_27 : decode bb_K_spreadShifts 27 = .ok (.istore 4, 2) := by decide +kernel
theorem dc_K_spreadShifts_29 : decode bb_K_spreadShifts 29 = .ok (.iload 4, 2) := by decide +kernel
theorem dc_K_spreadShifts_31 : decode bb_K_spreadShifts 31 = .ok (.aload_n 0, 1) := by decide +kernel
theorem dc_K_spreadShifts_32 : decode bb_K_spreadShifts 32 = .ok (.getfield 24, 3) := by decide +kernel
theorem dc_K_spreadShifts_35 : decode bb_K_spreadShifts 35 = .ok (.iload_n 2, 1) := by decide +kernel
theorem dc_K_spreadShifts_36 : decode bb_K_spreadShifts 36 = .ok (.iconst 0, 1) := by decide +kernel
theorem dc_K_spreadShifts_37 : decode bb_K_spreadShifts 37 = .ok (.invokevirtual 77, 3) := by decide +kernel
theorem dc_K_spreadShifts_40 : decode bb_K_spreadShifts 40 = .ok (.if_icmp .ge 32, 3) := by decide +kernel
theorem dc_K_spreadShifts_43 : decode bb_K_spreadShifts 43 = .ok (.iload_n 1, 1) := by decide +kernel
theorem dc_K_spreadShifts_44 : decode bb_K_spreadShifts 44 = .ok (.aload_n 0, 1) := by decide +kernel
theorem dc_K_spreadShifts_45 : decode bb_K_spreadShifts 45 = .ok (.getfield 51, 3) := by decide +kernel
theorem dc_K_spreadShifts_48 : decode bb_K_spreadShifts 48 = .ok (.if_icmp .ge 24, 3) := by decide +kernel
theorem dc_K_spreadShifts_51 : decode bb_K_spreadShifts 51 = .ok (.aload_n 0, 1) := by decide +kernel
theorem dc_K_spreadShifts_52 : decode bb_K_spreadShifts 52 = .ok (.getfield 48, 3) := by decide +kernel
theorem dc_K_spreadShifts_55 : decode bb_K_spreadShifts 55 = .ok (.iconst 3, 1) := by decide +kernel
theorem dc_K_spreadShifts_56 : decode bb_K_spreadShifts 56 = .ok (.aaload, 1) := by decide +kernel
theorem dc_K_spreadShifts_57 : decode bb_K_spreadShifts 57 = .ok (.iload_n 1, 1) := by decide +kernel
theorem dc_K_spreadShifts_58 : decode bb_K_spreadShifts 58 = .ok (.dup2, 1) := by decide +kernel
theorem dc_K_spreadShifts_59 : decode bb_K_spreadShifts 59 = .ok (.iaload, 1) := by decide +kernel
theorem dc_K_spreadShifts_60 : decode bb_K_spreadShifts 60 = .ok (.iload_n 3, 1) := by decide +kernel
theorem dc_K_spreadShifts_61 : decode bb_K_spreadShifts 61 = .ok (.iadd, 1) := by decide +kernel
theorem dc_K_spreadShifts_62 : decode bb_K_spreadShifts 62 = .ok (.iastore, 1) := by decide +kernel
theorem dc_K_spreadShifts_63 : decode bb_K_spreadShifts 63 = .ok (.iinc 1 1, 3) := by decide +kernel
theorem dc_K_spreadShifts_66 : decode bb_K_spreadShifts 66 = .ok (.iinc 4 1, 3) := by decide +kernel
theorem dc_K_spreadShifts_69 : decode bb_K_spreadShifts 69 = .ok (.goto (-40), 3) := by decide +kernel
theorem dc_K_spreadShifts_72 : decode bb_K_spreadShifts 72 = .ok (.iinc 2 1, 3) := by decide +kernel
theorem dc_K_spreadShifts_75 : decode bb_K_spreadShifts 75 = .ok (.goto (-71), 3) := by decide +kernel
theorem dc_K_spreadShifts_78 : decode bb_K_spreadShifts 78 = .ok (.return_, 1) := by decide +kernel
theorem dc_K_spreadSyncs_0 : decode bb_K_spreadSyncs 0 = .ok (.aload_n 0, 1) := by decide +kernel
theorem dc_K_spreadSyncs_1 : decode bb_K_spreadSyncs 1 = .ok (.getfield 33, 3) := by decide +kernel
theorem dc_K_spreadSyncs_4 : decode bb_K_spreadSyncs 4 = .ok (.invokevirtual 91, 3) := by decide +kernel
theorem dc_K_spreadSyncs_7 : decode bb_K_spreadSyncs 7 = .ok (.ifCond .eq 7, 3) := by decide +kernel
theorem dc_K_spreadSyncs_10 : decode bb_K_spreadSyncs 10 = .ok (.iconst 0, 1) := by decide +kernel
theorem dc_K_spreadSyncs_11 : decode bb_K_spreadSyncs 11 = .ok (.goto 4, 3) := by decide +kernel
theorem dc_K_spreadSyncs_14 : decode bb_K_spreadSyncs 14 = .ok (.iconst 1, 1) := by decide +kernel
theorem dc_K_spreadSyncs_15 : decode bb_K_spreadSyncs 15 = .ok (.istore_n 1, 1) := by decide +kernel
theorem dc_K_spreadSyncs_16 : decode bb_K_spreadSyncs 16 = .ok (.iconst 0, 1) := by decide +kernel
theorem dc_K_spreadSyncs_17 : decode bb_K_spreadSyncs 17 = .ok (.istore_n 2, 1) := by decide +kernel
theorem dc_K_spreadSyncs_18 : decode bb_K_spreadSyncs 18 = .ok (.iload_n 2, 1) := by decide +kernel
theorem dc_K_spreadSyncs_19 : decode bb_K_spreadSyncs 19 = .ok (.aload_n 0, 1) := by decide +kernel
theorem dc_K_spreadSyncs_20 : decode bb_K_spreadSyncs 20 = .ok (.getfield 51, 3) := by decide +kernel
theorem dc_K_spreadSyncs_23 : decode bb_K_spreadSyncs 23 = .ok (.if_icmp .ge 18, 3) := by decide +kernel
theorem dc_K_spreadSyncs_26 : decode bb_K_spreadSyncs 26 = .ok (.aload_n 0, 1) := by decide +kernel
theorem dc_K_spreadSyncs_27 : decode bb_K_spreadSyncs 27 = .ok (.getfield 48, 3) := by decide +kernel
theorem dc_K_spreadSyncs_30 : decode bb_K_spreadSyncs 30 = .ok (.iconst 4, 1) := by decide +kernel
theorem dc_K_spreadSyncs_31 : decode bb_K_spreadSyncs 31 = .ok (.aaload, 1) := by decide +kernel
theorem dc_K_spreadSyncs_32 : decode bb_K_spreadSyncs 32 = .ok (.iload_n 2, 1) := by decide +kernel
theorem dc_K_spreadSyncs_33 : decode bb_K_spreadSyncs 33 = .ok (.iload_n 1, 1) := by decide +kernel
theorem dc_K_spreadSyncs_34 : decode bb_K_spreadSyncs 34 = .ok (.iastore, 1) := by decide +kernel
theorem dc_K_spreadSyncs_35 : decode bb_K_spreadSyncs 35 = .ok (.iinc 2 1, 3) := by decide +kernel
theorem dc_K_spreadSyncs_38 : decode bb_K_spreadSyncs 38 = .ok (.goto (-20), 3) := by decide +kernel
theorem dc_K_spreadSyncs_41 : decode bb_K_spreadSyncs 41 = .ok (.iconst 0, 1) := by decide +kernel
theorem dc_K_spreadSyncs_42 : decode bb_K_spreadSyncs 42 = .ok (.istore_n 2, 1) := by decide +kernel
theorem dc_K_spreadSyncs_43 : decode bb_K_spreadSyncs 43 = .ok (.iload_n 2, 1) := by decide +kernel
theorem dc_K_spreadSyncs_44 : decode bb_K_spreadSyncs 44 = .ok (.aload_n 0, 1) := by decide +kernel
theorem dc_K_spreadSyncs_45 : decode bb_K_spreadSyncs 45 = .ok (.getfield 33, 3) := by decide +kernel
theorem dc_K_spreadSyncs_48 : decode bb_K_spreadSyncs 48 = .ok (.invokevirtual 73, 3) := by decide +kernel
theorem dc_K_spreadSyncs_51 : decode bb_K_spreadSyncs 51 = .ok (.if_icmp .ge 42, 3) := by decide +kernel
theorem dc_K_spreadSyncs_54 : decode bb_K_spreadSyncs 54 = .ok (.aload_n 0, 1) := by decide +kernel
theorem dc_K_spreadSyncs_55 : decode bb_K_spreadSyncs 55 = .ok (.getfield 33, 3) := by decide +kernel
theorem dc_K_spreadSyncs_58 : decode bb_K_spreadSyncs 58 = .ok (.iload_n 2, 1) := by decide +kernel
theorem dc_K_spreadSyncs_59 : decode bb_K_spreadSyncs 59 = .ok (.iconst 0, 1) := by decide +kernel
theorem dc_K_spreadSyncs_60 : decode bb_K_spreadSyncs 60 = .ok (.invokevirtual 77, 3) := by decide +kernel
theorem dc_K_spreadSyncs_63 : decode bb_K_spreadSyncs 63 = .ok (.iconst 1, 1) := by decide +kernel
theorem dc_K_spreadSyncs_64 : decode bb_K_spreadSyncs 64 = .ok (.isub, 1) := by decide +kernel
theorem dc_K_spreadSyncs_65 : decode bb_K_spreadSyncs 65 = .ok (.istore_n 3, 1) := by decide +kernel
theorem dc_K_spreadSyncs_66 : decode bb_K_spreadSyncs 66 = .ok (.iload_n 3, 1) := by decide +kernel
theorem dc_K_spreadSyncs_67 : decode bb_K_spreadSyncs 67 = .ok (.ifCond .lt 20, 3) := by decide +kernel
theorem dc_K_spreadSyncs_70 : decode bb_K_spreadSyncs 70 = .ok (.iload_n 3, 1) := by decide +kernel
theorem dc_K_spreadSyncs_71 : decode bb_K_spreadSyncs 71 = .ok (.aload_n 0, 1) := by decide +kernel
theorem dc_K_spreadSyncs_72 : decode bb_K_spreadSyncs 72 = .ok (.getfield 51, 3) := by decide +kernel
theorem dc_K_spreadSyncs_75 : decode bb_K_spreadSyncs 75 = .ok (.if_icmp .ge 12, 3) := by decide +kernel
theorem dc_K_spreadSyncs_78 : decode bb_K_spreadSyncs 78 = .ok (.aload_n 0, 1) := by decide +kernel
theorem dc_K_spreadSyncs_79 : decode bb_K_spreadSyncs 79 = .ok (.getfield 48, 3) := by decide +kernel
theorem dc_K_spreadSyncs_82 : decode bb_K_spreadSyncs 82 = .ok (.iconst 4, 1) := by decide +kernel
theorem dc_K_spreadSyncs_83 : decode bb_K_spreadSyncs 83 = .ok (.aaload, 1) := by decide +kernel
theorem dc_K_spreadSyncs_84 : decode bb_K_spreadSyncs 84 = .ok (.iload_n 3, 1) := by decide +kernel
theorem dc_K_spreadSyncs_85 : decode bb_K_spreadSyncs 85 = .ok (.iconst 1, 1) := by decide +kernel
theorem dc_K_spreadSyncs_86 : decode bb_K_spreadSyncs 86 = .ok (.iastore, 1) := by decide +kernel
theorem dc_K_spreadSyncs_87 : decode bb_K_spreadSyncs 87 = .ok (.iinc 2 1, 3) := by decide +kernel
theorem dc_K_spreadSyncs_90 : decode bb_K_spreadSyncs 90 = .ok (.goto (-47), 3) := by decide +kernel
theorem dc_K_spreadSyncs_93 : decode bb_K_spreadSyncs 93 = .ok (.return_, 1) := by decide +kernel
theorem dc_K_spreadChunks_0 : decode bb_K_spreadChunks 0 = .ok (.iconst 0, 1) := by decide +kernel
theorem dc_K_spreadChunks_1 : decode bb_K_spreadChunks 1 = .ok (.istore_n 1, 1) := by decide +kernel
theorem dc_K_spreadChunks_2 : decode bb_K_spreadChunks 2 = .ok (.iconst 0, 1) := by decide +kernel
theorem dc_K_spreadChunks_3 : decode bb_K_spreadChunks 3 = .ok (.istore_n 2, 1) := by decide +kernel
theorem dc_K_spreadChunks_4 : decode bb_K_spreadChunks 4 = .ok (.iconst 1, 1) := by decide +kernel
theorem dc_K_spreadChunks_5 : decode bb_K_spreadChunks 5 = .ok (.istore_n 3, 1) := by decide +kernel
theorem dc_K_spreadChunks_6 : decode bb_K_spreadChunks 6 = .ok (.iload_n 3, 1) := by decide +kernel
theorem dc_K_spreadChunks_7 : decode bb_K_spreadChunks 7 = .ok (.aload_n 0, 1) := by decide +kernel
theorem dc_K_spreadChunks_8 : decode bb_K_spreadChunks 8 = .ok (.getfield 30, 3) := by decide +kernel
theorem dc_K_spreadChunks_11 : decode bb_K_spreadChunks 11 = .ok (.invokevirtual 73, 3) := by decide +kernel
theorem dc_K_spreadChunks_14 : decode bb_K_spreadChunks 14 = .ok (.if_icmp .gt 118, 3) := by decide +kernel
theorem dc_K_spreadChunks_17 : decode bb_K_spreadChunks 17 = .ok (.aload_n 0, 1) := by decide +kernel
theorem dc_K_spreadChunks_18 : decode bb_K_spreadChunks 18 = .ok (.iload_n 2, 1) := by decide +kernel
theorem dc_K_spreadChunks_19 : decode bb_K_spreadChunks 19 = .ok (.iload_n 3, 1) := by decide +kernel
theorem dc_K_spreadChunks_20 : decode bb_K_spreadChunks 20 = .ok (.invokevirtual 104, 3) := by decide +kernel
theorem dc_K_spreadChunks_23 : decode bb_K_spreadChunks 23 = .ok (.istore_n 2, 1) := by decide +kernel
theorem dc_K_spreadChunks_24 : decode bb_K_spreadChunks 24 = .ok (.aload_n 0, 1) := by decide +kernel
theorem dc_K_spreadChunks_25 : decode bb_K_spreadChunks 25 = .ok (.getfield 30, 3) := by decide +kernel
theorem dc_K_spreadChunks_28 : decode bb_K_spreadChunks 28 = .ok (.iload_n 3, 1) := by decide +kernel
theorem dc_K_spreadChunks_29 : decode bb_K_spreadChunks 29 = .ok (.iconst 1, 1) := by decide +kernel
theorem dc_K_spreadChunks_30 : decode bb_K_spreadChunks 30 = .ok (.isub, 1) := by decide +kernel
theorem dc_K_spreadChunks_31 : decode bb_K_spreadChunks 31 = .ok (.invokevirtual 107, 3) := by decide +kernel
theorem dc_K_spreadChunks_34 : decode bb_K_spreadChunks 34 = .ok (.istore 4, 2) := by decide +kernel
theorem dc_K_spreadChunks_36 : decode bb_K_spreadChunks 36 = .ok (.iconst 0, 1) := by decide +kernel
theorem dc_K_spreadChunks_37 : decode bb_K_spreadChunks 37 = .ok (.istore 5, 2) := by decide +kernel
theorem dc_K_spreadChunks_39 : decode bb_K_spreadChunks 39 = .ok (.iload 5, 2) := by decide +kernel
theorem dc_K_spreadChunks_41 : decode bb_K_spreadChunks 41 = .ok (.aload_n 0, 1) := by decide +kernel
theorem dc_K_spreadChunks_42 : decode bb_K_spreadChunks 42 = .ok (.getfield 27, 3) := by decide +kernel
theorem dc_K_spreadChunks_45 : decode bb_K_spreadChunks 45 = .ok (.iload_n 2, 1) := by decide +kernel
theorem dc_K_spreadChunks_46 : decode bb_K_spreadChunks 46 = .ok (.iconst 1, 1) := by decide +kernel
theorem dc_K_spreadChunks_47 : decode bb_K_spreadChunks 47 = .ok (.invokevirtual 77, 3) := by decide +kernel
theorem dc_K_spreadChunks_50 : decode bb_K_spreadChunks 50 = .ok (.if_icmp .ge 76, 3) := by decide +kernel
theorem dc_K_spreadChunks_53 : decode bb_K_spreadChunks 53 = .ok (.iload_n 1, 1) := by decide +kernel
theorem dc_K_spreadChunks_54 : decode bb_K_spreadChunks 54 = .ok (.aload_n 0, 1) := by decide +kernel
theorem dc_K_spreadChunks_55 : decode bb_K_spreadChunks 55 = .ok (.getfield 51, 3) := by decide +kernel
theorem dc_K_spreadChunks_58 : decode bb_K_spreadChunks 58 = .ok (.if_icmp .ge 68, 3) := by decide +kernel
theorem dc_K_spreadChunks_61 : decode bb_K_spreadChunks 61 = .ok (.aload_n 0, 1) := by decide +kernel
theorem dc_K_spreadChunks_62 : decode bb_K_spreadChunks 62 = .ok (.getfield 48, 3) := by decide +kernel
theorem dc_K_spreadChunks_65 : decode bb_K_spreadChunks 65 = .ok (.iconst 0, 1) := by decide +kernel
theorem dc_K_spreadChunks_66 : decode bb_K_spreadChunks 66 = .ok (.aaload, 1) := by decide +kernel
theorem dc_K_spreadChunks_67 : decode bb_K_spreadChunks 67 = .ok (.iload_n 1, 1) := by decide +kernel
theorem dc_K_spreadChunks_68 : decode bb_K_spreadChunks 68 = .ok (.iload 4, 2) := by decide +kernel
theorem dc_K_spreadChunks_70 : decode bb_K_spreadChunks 70 = .ok (.iastore, 1) := by decide +kernel
theorem dc_K_spreadChunks_71 : decode bb_K_spreadChunks 71 = .ok (.aload_n 0, 1) := by decide +kernel
theorem dc_K_spreadChunks_72 : decode bb_K_spreadChunks 72 = .ok (.getfield 48, 3) := by decide +kernel
theorem dc_K_spreadChunks_75 : decode bb_K_spreadChunks 75 = .ok (.iconst 1, 1) := by decide +kernel
theorem dc_K_spreadChunks_76 : decode bb_K_spreadChunks 76 = .ok (.aaload, 1) := by decide +kernel
theorem dc_K_spreadChunks_77 : decode bb_K_spreadChunks 77 = .ok (.iload_n 1, 1) := by decide +kernel
theorem dc_K_spreadChunks_78 : decode bb_K_spreadChunks 78 = .ok (.aload_n 0, 1) := by decide +kernel
theorem dc_K_spreadChunks_79 : decode bb_K_spreadChunks 79 = .ok (.getfield 42, 3) := by decide +kernel
theorem dc_K_spreadChunks_82 : decode bb_K_spreadChunks 82 = .ok (.iload_n 1, 1) := by decide +kernel
theorem dc_K_spreadChunks_83 : decode bb_K_spreadChunks 83 = .ok (.invokevirtual 120, 3) := by decide +kernel
theorem dc_K_spreadChunks_86 : decode bb_K_spreadChunks 86 = .ok (.iastore, 1) := by decide +kernel
theorem dc_K_spreadChunks_87 : decode bb_K_spreadChunks 87 = .ok (.aload_n 0, 1) := by decide +kernel
theorem dc_K_spreadChunks_88 : decode bb_K_spreadChunks 88 = .ok (.getfield 48, 3) := by decide +kernel
theorem dc_K_spreadChunks_91 : decode bb_K_spreadChunks 91 = .ok (.iconst 5, 1) := by decide +kernel
theorem dc_K_spreadChunks_92 : decode bb_K_spreadChunks 92 = .ok (.aaload, 1) := by decide +kernel
theorem dc_K_spreadChunks_93 : decode bb_K_spreadChunks 93 = .ok (.iload_n 1, 1) := by decide +kernel
theorem dc_K_spreadChunks_94 : decode bb_K_spreadChunks 94 = .ok (.aload_n 0, 1) := by decide +kernel
theorem dc_K_spreadChunks_95 : decode bb_K_spreadChunks 95 = .ok (.getfield 27, 3) := by decide +kernel
theorem dc_K_spreadChunks_98 : decode bb_K_spreadChunks 98 = .ok (.iload_n 2, 1) := by decide +kernel
theorem dc_K_spreadChunks_99 : decode bb_K_spreadChunks 99 = .ok (.iconst 2, 1) := by decide +kernel
theorem dc_K_spreadChunks_100 : decode bb_K_spreadChunks 100 = .ok (.invokevirtual 77, 3) := by decide +kernel
theorem dc_K_spreadChunks_103 : decode bb_K_spreadChunks 103 = .ok (.iastore, 1) := by decide +kernel
theorem dc_K_spreadChunks_104 : decode bb_K_spreadChunks 104 = .ok (.iload 4, 2) := by decide +kernel
theorem dc_K_spreadChunks_106 : decode bb_K_spreadChunks 106 = .ok (.aload_n 0, 1) := by decide +kernel
theorem dc_K_spreadChunks_107 : decode bb_K_spreadChunks 107 = .ok (.getfield 48, 3) := by decide +kernel
theorem dc_K_spreadChunks_110 : decode bb_K_spreadChunks 110 = .ok (.iconst 1, 1) := by decide +kernel
theorem dc_K_spreadChunks_111 : decode bb_K_spreadChunks 111 = .ok (.aaload, 1) := by decide +kernel
theorem dc_K_spreadChunks_112 : decode bb_K_spreadChunks 112 = .ok (.iload_n 1, 1) := by decide +kernel
theorem dc_K_spreadChunks_113 : decode bb_K_spreadChunks 113 = .ok (.iaload, 1) := by decide +kernel
theorem dc_K_spreadChunks_114 : decode bb_K_spreadChunks 114 = .ok (.iadd, 1) := by decide +kernel
theorem dc_K_spreadChunks_115 : decode bb_K_spreadChunks 115 = .ok (.istore 4, 2) := by decide +kernel
theorem dc_K_spreadChunks_117 : decode bb_K_spreadChunks 117 = .ok (.iinc 1 1, 3) := by decide +kernel
theorem dc_K_spreadChunks_120 : decode bb_K_spreadChunks 120 = .ok (.iinc 5 1, 3) := by decide +kernel
theorem dc_K_spreadChunks_123 : decode bb_K_spreadChunks 123 = .ok (.goto (-84), 3) := by decide +kernel
theorem dc_K_spreadChunks_126 : decode bb_K_spreadChunks 126 = .ok (.iinc 3 1, 3) := by decide +kernel
theorem dc_K_spreadChunks_129 : decode bb_K_spreadChunks 129 = .ok (.goto (-123), 3) := by decide +kernel
theorem dc_K_spreadChunks_132 : decode bb_K_spreadChunks 132 = .ok (.return_, 1) := by decide +kernel
theorem dc_M_boxes_0 : decode bb_M_boxes 0 = .ok (.aload_n 0, 1) := by decide +kernel
theorem dc_M_boxes_1 : decode bb_M_boxes 1 = .ok (.invokevirtual 75, 3) := by decide +kernel
theorem dc_M_boxes_4 : decode bb_M_boxes 4 = .ok (.aload_n 0, 1) := by decide +kernel
theorem dc_M_boxes_5 : decode bb_M_boxes 5 = .ok (.invokevirtual 78, 3) := by decide +kernel
theorem dc_M_boxes_8 : decode bb_M_boxes 8 = .ok (.ifCond .eq 13, 3) := by decide +kernel
theorem dc_M_boxes_11 : decode bb_M_boxes 11 = .ok (.aload_n 0, 1) := by decide +kernel
theorem dc_M_boxes_12 : decode bb_M_boxes 12 = .ok (.getfield 21, 3) := by decide +kernel
theorem dc_M_boxes_15 : decode bb_M_boxes 15 = .ok (.invokevirtual 82, 3) := by decide +kernel
theorem dc_M_boxes_18 : decode bb_M_boxes 18 = .ok (.goto 6, 3) := by decide +kernel
theorem dc_M_boxes_21 : decode bb_M_boxes 21 = .ok (.sipush (-1000), 3) := by decide +kernel
theorem dc_M_boxes_24 : decode bb_M_boxes 24 = .ok (.ireturn, 1) := by decide +kernel
theorem dc_M_boxesAreKnown_0 : decode bb_M_boxesAreKnown 0 = .ok (.aload_n 0, 1) := by decide +kernel
theorem dc_M_boxesAreKnown_1 : decode bb_M_boxesAreKnown 1 = .ok (.getfield 45, 3) := by decide +kernel
theorem dc_M_boxesAreKnown_4 : decode bb_M_boxesAreKnown 4 = .ok (.iconst 1, 1) := by decide +kernel
theorem dc_M_boxesAreKnown_5 : decode bb_M_boxesAreKnown 5 = .ok (.if_icmp .eq 15, 3) := by decide +kernel
theorem dc_M_boxesAreKnown_8 : decode bb_M_boxesAreKnown 8 = .ok (.aload_n 0, 1) := by decide +kernel
theorem dc_M_boxesAreKnown_9 : decode bb_M_boxesAreKnown 9 = .ok (.getfield 45, 3) := by decide +kernel
theorem dc_M_boxesAreKnown_12 : decode bb_M_boxesAreKnown 12 = .ok (.iconst 2, 1) := by decide +kernel
theorem dc_M_boxesAreKnown_13 : decode bb_M_boxesAreKnown 13 = .ok (.if_icmp .eq 7, 3) := by decide +kernel
theorem dc_M_boxesAreKnown_16 : decode bb_M_boxesAreKnown 16 = .ok (.iconst 1, 1) := by decide +kernel
theorem dc_M_boxesAreKnown_17 : decode bb_M_boxesAreKnown 17 = .ok (.goto 4, 3) := by decide +kernel
theorem dc_M_boxesAreKnown_20 : decode bb_M_boxesAreKnown 20 = .ok (.iconst 0, 1) := by decide +kernel
theorem dc_M_boxesAreKnown_21 : decode bb_M_boxesAreKnown 21 = .ok (.ireturn, 1) := by decide +kernel
theorem dc_M_box_0 : decode bb_M_box 0 = .ok (.aload_n 0, 1) := by decide +kernel
theorem dc_M_box_1 : decode bb_M_box 1 = .ok (.invokevirtual 75, 3) := by decide +kernel
theorem dc_M_box_4 : decode bb_M_box 4 = .ok (.aload_n 0, 1) := by decide +kernel
theorem dc_M_box_5 : decode bb_M_box 5 = .ok (.invokevirtual 78, 3) := by decide +kernel
theorem dc_M_box_8 : decode bb_M_box 8 = .ok (.ifCond .eq 12, 3) := by decide +kernel
theorem dc_M_box_11 : decode bb_M_box 11 = .ok (.iload_n 2, 1) := by decide +kernel
theorem dc_M_box_12 : decode bb_M_box 12 = .ok (.ifCond .lt 8, 3) := by decide +kernel
theorem dc_M_box_15 : decode bb_M_box 15 = .ok (.iload_n 2, 1) := by decide +kernel
theorem dc_M_box_16 : decode bb_M_box 16 = .ok (.iconst 5, 1) := by decide +kernel
theorem dc_M_box_17 : decode bb_M_box 17 = .ok (.if_icmp .le 7, 3) := by decide +kernel
theorem dc_M_box_20 : decode bb_M_box 20 = .ok (.sipush (-1000), 3) := by decide +kernel
theorem dc_M_box_23 : decode bb_M_box 23 = .ok (.ireturn, 1) := by decide +kernel
theorem dc_M_box_24 : decode bb_M_box 24 = .ok (.aload_n 0, 1) := by decide +kernel
theorem dc_M_box_25 : decode bb_M_box 25 = .ok (.getfield 21, 3) := by decide +kernel
theorem dc_M_box_28 : decode bb_M_box 28 = .ok (.iload_n 1, 1) := by decide +kernel
theorem dc_M_box_29 : decode bb_M_box 29 = .ok (.iload_n 2, 1) := by decide +kernel
theorem dc_M_box_30 : decode bb_M_box 30 = .ok (.invokevirtual 83, 3) := by decide +kernel
theorem dc_M_box_33 : decode bb_M_box 33 = .ok (.ireturn, 1) := by decide +kernel
theorem dc_M_tracks_0 : decode bb_M_tracks 0 = .ok (.aload_n 0, 1) := by decide +kernel
theorem dc_M_tracks_1 : decode bb_M_tracks 1 = .ok (.invokevirtual 75, 3) := by decide +kernel
theorem dc_M_tracks_4 : decode bb_M_tracks 4 = .ok (.aload_n 0, 1) := by decide +kernel
theorem dc_M_tracks_5 : decode bb_M_tracks 5 = .ok (.getfield 45, 3) := by decide +kernel
theorem dc_M_tracks_8 : decode bb_M_tracks 8 = .ok (.ifCond .ne 10, 3) := by decide +kernel
theorem dc_M_tracks_11 : decode bb_M_tracks 11 = .ok (.aload_n 0, 1) := by decide +kernel
theorem dc_M_tracks_12 : decode bb_M_tracks 12 = .ok (.getfield 41, 3) := by decide +kernel
theorem dc_M_tracks_15 : decode bb_M_tracks 15 = .ok (.goto 6, 3) := by decide +kernel
theorem dc_M_tracks_18 : decode bb_M_tracks 18 = .ok (.sipush (-1000), 3) := by decide +kernel
theorem dc_M_tracks_21 : decode bb_M_tracks 21 = .ok (.ireturn, 1) := by decide +kernel
theorem dc_M_samples_0 : decode bb_M_samples 0 = .ok (.aload_n 0, 1) := by decide +kernel
theorem dc_M_samples_1 : decode bb_M_samples 1 = .ok (.invokevirtual 75, 3) := by decide +kernel
theorem dc_M_samples_4 : decode bb_M_samples 4 = .ok (.aload_n 0, 1) := by decide +kernel
theorem dc_M_samples_5 : decode bb_M_samples 5 = .ok (.iload_n 1, 1) := by decide +kernel
theorem dc_M_samples_6 : decode bb_M_samples 6 = .ok (.invokevirtual 87, 3) := by decide +kernel
theorem dc_M_samples_9 : decode bb_M_samples 9 = .ok (.astore_n 2, 1) := by decide +kernel
theorem dc_M_samples_10 : decode bb_M_samples 10 = .ok (.aload_n 2, 1) := by decide +kernel
theorem dc_M_samples_11 : decode bb_M_samples 11 = .ok (.ifnonnull 9, 3) := by decide +kernel
theorem dc_M_samples_14 : decode bb_M_samples 14 = .ok (.sipush (-1000), 3) := by decide +kernel
theorem dc_M_samples_17 : decode bb_M_samples 17 = .ok (.goto 7, 3) := by decide +kernel
theorem dc_M_samples_20 : decode bb_M_samples 20 = .ok (.aload_n 2, 1) := by decide +kernel
theorem dc_M_samples_21 : decode bb_M_samples 21 = .ok (.invokevirtual 91, 3) := by decide +kernel
theorem dc_M_samples_24 : decode bb_M_samples 24 = .ok (.ireturn, 1) := by decide +kernel
theorem dc_M_soundTrack_0 : decode bb_M_soundTrack 0 = .ok (.aload_n 0, 1) := by decide +kernel
theorem dc_M_soundTrack_1 : decode bb_M_soundTrack 1 = .ok (.getfield 45, 3) := by decide +kernel
theorem dc_M_soundTrack_4 : decode bb_M_soundTrack 4 = .ok (.ifCond .ne 15, 3) := by decide +kernel
theorem dc_M_soundTrack_7 : decode bb_M_soundTrack 7 = .ok (.iload_n 1, 1) := by decide +kernel
theorem dc_M_soundTrack_8 : decode bb_M_soundTrack 8 = .ok (.ifCond .lt 11, 3) := by decide +kernel
theorem dc_M_soundTrack_11 : decode bb_M_soundTrack 11 = .ok (.iload_n 1, 1) := by decide +kernel
theorem dc_M_soundTrack_12 : decode bb_M_soundTrack 12 = .ok (.aload_n 0, 1) := by decide +kernel
theorem dc_M_soundTrack_13 : decode bb_M_soundTrack 13 = .ok (.getfield 41, 3) := by decide +kernel
theorem dc_M_soundTrack_16 : decode bb_M_soundTrack 16 = .ok (.if_icmp .lt 5, 3) := by decide +kernel
theorem dc_M_soundTrack_19 : decode bb_M_soundTrack 19 = .ok (.aconst_null, 1) := by decide +kernel
theorem dc_M_soundTrack_20 : decode bb_M_soundTrack 20 = .ok (.areturn, 1) := by decide +kernel
theorem dc_M_soundTrack_21 : decode bb_M_soundTrack 21 = .ok (.aload_n 0, 1) := by decide +kernel
theorem dc_M_soundTrack_22 : decode bb_M_soundTrack 22 = .ok (.getfield 27, 3) := by decide +kernel
theorem dc_M_soundTrack_25 : decode bb_M_soundTrack 25 = .ok (.iload_n 1, 1) := by decide +kernel
theorem dc_M_soundTrack_26 : decode bb_M_soundTrack 26 = .ok (.aaload, 1) := by decide +kernel
theorem dc_M_soundTrack_27 : decode bb_M_soundTrack 27 = .ok (.areturn, 1) := by decide +kernel
theorem dc_K_sampleCount_0 : decode bb_K_sampleCount 0 = .ok (.aload_n 0, 1) := by decide +kernel
theorem dc_K_sampleCount_1 : decode bb_K_sampleCount 1 = .ok (.getfield 51, 3) := by decide +kernel
theorem dc_K_sampleCount_4 : decode bb_K_sampleCount 4 = .ok (.ireturn, 1) := by decide +kernel
theorem dc_M_sample_0 : decode bb_M_sample 0 = .ok (.aload_n 0, 1) := by decide +kernel
theorem dc_M_sample_1 : decode bb_M_sample 1 = .ok (.invokevirtual 75, 3) := by decide +kernel
theorem dc_M_sample_4 : decode bb_M_sample 4 = .ok (.aload_n 0, 1) := by decide +kernel
theorem dc_M_sample_5 : decode bb_M_sample 5 = .ok (.iload_n 1, 1) := by decide +kernel
theorem dc_M_sample_6 : decode bb_M_sample 6 = .ok (.invokevirtual 87, 3) := by decide +kernel
theorem dc_M_sample_9 : decode bb_M_sample 9 = .ok (.astore 4, 2) := by decide +kernel
theorem dc_M_sample_11 : decode bb_M_sample 11 = .ok (.aload 4, 2) := by decide +kernel
theorem dc_M_sample_13 : decode bb_M_sample 13 = .ok (.ifnull 12, 3) := by decide +kernel
theorem dc_M_sample_16 : decode bb_M_sample 16 = .ok (.iload_n 3, 1) := by decide +kernel
theorem dc_M_sample_17 : decode bb_M_sample 17 = .ok (.ifCond .lt 8, 3) := by decide +kernel
theorem dc_M_sample_20 : decode bb_M_sample 20 = .ok (.iload_n 3, 1) := by decide +kernel
theorem dc_M_sample_21 : decode bb_M_sample 21 = .ok (.iconst 5, 1) := by decide +kernel
theorem dc_M_sample_22 : decode bb_M_sample 22 = .ok (.if_icmp .le 7, 3) := by decide +kernel
theorem dc_M_sample_25 : decode bb_M_sample 25 = .ok (.sipush (-1000), 3) := by decide +kernel
theorem dc_M_sample_28 : decode bb_M_sample 28 = .ok (.ireturn, 1) := by decide +kernel
theorem dc_M_sample_29 : decode bb_M_sample 29 = .ok (.aload 4, 2) := by decide +kernel
theorem dc_M_sample_31 : decode bb_M_sample 31 = .ok (.iload_n 2, 1) := by decide +kernel
theorem dc_M_sample_32 : decode bb_M_sample 32 = .ok (.iload_n 3, 1) := by decide +kernel
theorem dc_M_sample_33 : decode bb_M_sample 33 = .ok (.invokevirtual 94, 3) := by decide +kernel
theorem dc_M_sample_36 : decode bb_M_sample 36 = .ok (.ireturn, 1) := by decide +kernel
theorem dc_K_of_0 : decode bb_K_of 0 = .ok (.iload_n 1, 1) := by decide +kernel
theorem dc_K_of_1 : decode bb_K_of 1 = .ok (.ifCond .lt 21, 3) := by decide +kernel
theorem dc_K_of_4 : decode bb_K_of 4 = .ok (.iload_n 1, 1) := by decide +kernel
theorem dc_K_of_5 : decode bb_K_of 5 = .ok (.aload_n 0, 1) := by decide +kernel
theorem dc_K_of_6 : decode bb_K_of 6 = .ok (.getfield 51, 3) := by decide +kernel
theorem dc_K_of_9 : decode bb_K_of 9 = .ok (.if_icmp .ge 13, 3) := by decide +kernel
theorem dc_K_of_12 : decode bb_K_of 12 = .ok (.iload_n 2, 1) := by decide +kernel
theorem dc_K_of_13 : decode bb_K_of 13 = .ok (.ifCond .lt 9, 3) := by decide +kernel
theorem dc_K_of_16 : decode bb_K_of 16 = .ok (.iload_n 2, 1) := by decide +kernel
theorem dc_K_of_17 : decode bb_K_of 17 = .ok (.bipush 7, 2) := by decide +kernel
theorem dc_K_of_19 : decode bb_K_of 19 = .ok (.if_icmp .lt 7, 3) := by decide +kernel
theorem dc_K_of_22 : decode bb_K_of 22 = .ok (.sipush (-1000), 3) := by decide +kernel
theorem dc_K_of_25 : decode bb_K_of 25 = .ok (.ireturn, 1) := by decide +kernel
theorem dc_K_of_26 : decode bb_K_of 26 = .ok (.aload_n 0, 1) := by decide +kernel
theorem dc_K_of_27 : decode bb_K_of 27 = .ok (.getfield 48, 3) := by decide +kernel
theorem dc_K_of_30 : decode bb_K_of 30 = .ok (.iload_n 2, 1) := by decide +kernel
theorem dc_K_of_31 : decode bb_K_of 31 = .ok (.aaload, 1) := by decide +kernel
theorem dc_K_of_32 : decode bb_K_of 32 = .ok (.iload_n 1, 1) := by decide +kernel
theorem dc_K_of_33 : decode bb_K_of 33 = .ok (.iaload, 1) := by decide +kernel
theorem dc_K_of_34 : decode bb_K_of 34 = .ok (.ireturn, 1) := by decide +kernel
theorem dc_M_shown_0 : decode bb_M_shown 0 = .ok (.aload_n 0, 1) := by decide +kernel
theorem dc_M_shown_1 : decode bb_M_shown 1 = .ok (.invokevirtual 75, 3) := by decide +kernel
theorem dc_M_shown_4 : decode bb_M_shown 4 = .ok (.aload_n 0, 1) := by decide +kernel
theorem dc_M_shown_5 : decode bb_M_shown 5 = .ok (.iload_n 1, 1) := by decide +kernel
theorem dc_M_shown_6 : decode bb_M_shown 6 = .ok (.invokevirtual 87, 3) := by decide +kernel
theorem dc_M_shown_9 : decode bb_M_shown 9 = .ok (.astore_n 3, 1) := by decide +kernel
theorem dc_M_shown_10 : decode bb_M_shown 10 = .ok (.aload_n 3, 1) := by decide +kernel
theorem dc_M_shown_11 : decode bb_M_shown 11 = .ok (.ifnull 7, 3) := by decide +kernel
theorem dc_M_shown_14 : decode bb_M_shown 14 = .ok (.iload_n 2, 1) := by decide +kernel
theorem dc_M_shown_15 : decode bb_M_shown 15 = .ok (.ifCond .ge 7, 3) := by decide +kernel
theorem dc_M_shown_18 : decode bb_M_shown 18 = .ok (.sipush (-1000), 3) := by decide +kernel
theorem dc_M_shown_21 : decode bb_M_shown 21 = .ok (.ireturn, 1) := by decide +kernel
theorem dc_M_shown_22 : decode bb_M_shown 22 = .ok (.aload_n 3, 1) := by decide +kernel
theorem dc_M_shown_23 : decode bb_M_shown 23 = .ok (.iload_n 2, 1) := by decide +kernel
theorem dc_M_shown_24 : decode bb_M_shown 24 = .ok (.invokevirtual 95, 3) := by decide +kernel
theorem dc_M_shown_27 : decode bb_M_shown 27 = .ok (.ireturn, 1) := by decide +kernel
theorem dc_K_shownAt_0 : decode bb_K_shownAt 0 = .ok (.aload_n 0, 1) := by decide +kernel
theorem dc_K_shownAt_1 : decode bb_K_shownAt 1 = .ok (.iload_n 1, 1) := by decide +kernel
theorem dc_K_shownAt_2 : decode bb_K_shownAt 2 = .ok (.invokevirtual 140, 3) := by decide +kernel
theorem dc_K_shownAt_5 : decode bb_K_shownAt 5 = .ok (.istore_n 2, 1) := by decide +kernel
theorem dc_K_shownAt_6 : decode bb_K_shownAt 6 = .ok (.iload_n 2, 1) := by decide +kernel
theorem dc_K_shownAt_7 : decode bb_K_shownAt 7 = .ok (.sipush (-1000), 3) := by decide +kernel
theorem dc_K_shownAt_10 : decode bb_K_shownAt 10 = .ok (.if_icmp .ne 7, 3) := by decide +kernel
theorem dc_K_shownAt_13 : decode bb_K_shownAt 13 = .ok (.sipush (-1000), 3) := by decide +kernel
theorem dc_K_shownAt_16 : decode bb_K_shownAt 16 = .ok (.ireturn, 1) := by decide +kernel
theorem dc_K_shownAt_17 : decode bb_K_shownAt 17 = .ok (.iconst 0, 1) := by decide +kernel
theorem dc_K_shownAt_18 : decode bb_K_shownAt 18 = .ok (.istore_n 3, 1) := by decide +kernel
theorem dc_K_shownAt_19 : decode bb_K_shownAt 19 = .ok (.iload_n 3, 1) := by decide +kernel
theorem dc_K_shownAt_20 : decode bb_K_shownAt 20 = .ok (.aload_n 0, 1) := by decide +kernel
theorem dc_K_shownAt_21 : decode bb_K_shownAt 21 = .ok (.getfield 51, 3) := by decide +kernel
theorem dc_K_shownAt_24 : decode bb_K_shownAt 24 = .ok (.if_icmp .ge 43, 3) := by decide +kernel
theorem dc_K_shownAt_27 : decode bb_K_shownAt 27 = .ok (.aload_n 0, 1) := by decide +kernel
theorem dc_K_shownAt_28 : decode bb_K_shownAt 28 = .ok (.getfield 48, 3) := by decide +kernel
theorem dc_K_shownAt_31 : decode bb_K_shownAt 31 = .ok (.iconst 3, 1) := by decide +kernel
theorem dc_K_shownAt_32 : decode bb_K_shownAt 32 = .ok (.aaload, 1) := by decide +kernel
theorem dc_K_shownAt_33 : decode bb_K_shownAt 33 = .ok (.iload_n 3, 1) := by decide +kernel
theorem dc_K_shownAt_34 : decode bb_K_shownAt 34 = .ok (.iaload, 1) := by decide +kernel
theorem dc_K_shownAt_35 : decode bb_K_shownAt 35 = .ok (.istore 4, 2) := by decide +kernel
theorem dc_K_shownAt_37 : decode bb_K_shownAt 37 = .ok (.iload_n 2, 1) := by decide +kernel
theorem dc_K_shownAt_38 : decode bb_K_shownAt 38 = .ok (.iload 4, 2) := by decide +kernel
theorem dc_K_shownAt_40 : decode bb_K_shownAt 40 = .ok (.if_icmp .lt 21, 3) := by decide +kernel
theorem dc_K_shownAt_43 : decode bb_K_shownAt 43 = .ok (.iload_n 2, 1) := by decide +kernel
theorem dc_K_shownAt_44 : decode bb_K_shownAt 44 = .ok (.iload 4, 2) := by decide +kernel
theorem dc_K_shownAt_46 : decode bb_K_shownAt 46 = .ok (.aload_n 0, 1) := by decide +kernel
theorem dc_K_shownAt_47 : decode bb_K_shownAt 47 = .ok (.getfield 48, 3) := by decide +kernel
theorem dc_K_shownAt_50 : decode bb_K_shownAt 50 = .ok (.bipush 6, 2) := by decide +kernel
theorem dc_K_shownAt_52 : decode bb_K_shownAt 52 = .ok (.aaload, 1) := by decide +kernel
theorem dc_K_shownAt_53 : decode bb_K_shownAt 53 = .ok (.iload_n 3, 1) := by decide +kernel
theorem dc_K_shownAt_54 : decode bb_K_shownAt 54 = .ok (.iaload, 1) := by decide +kernel
theorem dc_K_shownAt_55 : decode bb_K_shownAt 55 = .ok (.iadd, 1) := by decide +kernel
theorem dc_K_shownAt_56 : decode bb_K_shownAt 56 = .ok (.if_icmp .ge 5, 3) := by decide +kernel
theorem dc_K_shownAt_59 : decode bb_K_shownAt 59 = .ok (.iload_n 3, 1) := by decide +kernel
theorem dc_K_shownAt_60 : decode bb_K_shownAt 60 = .ok (.ireturn, 1) := by decide +kernel
theorem dc_K_shownAt_61 : decode bb_K_shownAt 61 = .ok (.iinc 3 1, 3) := by decide +kernel
theorem dc_K_shownAt_64 : decode bb_K_shownAt 64 = .ok (.goto (-45), 3) := by decide +kernel
theorem dc_K_shownAt_67 : decode bb_K_shownAt 67 = .ok (.sipush (-1000), 3) := by decide +kernel
theorem dc_K_shownAt_70 : decode bb_K_shownAt 70 = .ok (.ireturn, 1) := by decide +kernel
theorem dc_K_mediaTime_0 : decode bb_K_mediaTime 0 = .ok (.aload_n 0, 1) := by decide +kernel
theorem dc_K_mediaTime_1 : decode bb_K_mediaTime 1 = .ok (.getfield 36, 3) := by decide +kernel
theorem dc_K_mediaTime_4 : decode bb_K_mediaTime 4 = .ok (.invokevirtual 91, 3) := by decide +kernel
theorem dc_K_mediaTime_7 : decode bb_K_mediaTime 7 = .ok (.ifCond .ne 5, 3) := by decide +kernel
theorem dc_K_mediaTime_10 : decode bb_K_mediaTime 10 = .ok (.iload_n 1, 1) := by decide +kernel
theorem dc_K_mediaTime_11 : decode bb_K_mediaTime 11 = .ok (.ireturn, 1) := by decide +kernel
theorem dc_K_mediaTime_12 : decode bb_K_mediaTime 12 = .ok (.iload_n 1, 1) := by decide +kernel
theorem dc_K_mediaTime_13 : decode bb_K_mediaTime 13 = .ok (.istore_n 2, 1) := by decide +kernel
theorem dc_K_mediaTime_14 : decode bb_K_mediaTime 14 = .ok (.iconst 0, 1) := by decide +kernel
theorem dc_K_mediaTime_15 : decode bb_K_mediaTime 15 = .ok (.istore_n 3, 1) := by decide +kernel
theorem dc_K_mediaTime_16 : decode bb_K_mediaTime 16 = .ok (.iload_n 3, 1) := by decide +kernel
theorem dc_K_mediaTime_17 : decode bb_K_mediaTime 17 = .ok (.aload_n 0, 1) := by decide +kernel
theorem dc_K_mediaTime_18 : decode bb_K_mediaTime 18 = .ok (.getfield 36, 3) := by decide +kernel
theorem dc_K_mediaTime_21 : decode bb_K_mediaTime 21 = .ok (.invokevirtual 73, 3) := by decide +kernel
theorem dc_K_mediaTime_24 : decode bb_K_mediaTime 24 = .ok (.if_icmp .ge 61, 3) := by decide +kernel
theorem dc_K_mediaTime_27 : decode bb_K_mediaTime 27 = .ok (.aload_n 0, 1) := by decide +kernel
theorem dc_K_mediaTime_28 : decode bb_K_mediaTime 28 = .ok (.getfield 36, 3) := by decide +kernel
theorem dc_K_mediaTime_31 : decode bb_K_mediaTime 31 = .ok (.iload_n 3, 1) := by decide +kernel
theorem dc_K_mediaTime_32 : decode bb_K_mediaTime 32 = .ok (.iconst 0, 1) := by decide +kernel
theorem dc_K_mediaTime_33 : decode bb_K_mediaTime 33 = .ok (.invokevirtual 77, 3) := by decide +kernel
theorem dc_K_mediaTime_36 : decode bb_K_mediaTime 36 = .ok (.istore 4, 2) := by decide +kernel
theorem dc_K_mediaTime_38 : decode bb_K_mediaTime 38 = .ok (.iload_n 2, 1) := by decide +kernel
theorem dc_K_mediaTime_39 : decode bb_K_mediaTime 39 = .ok (.iload 4, 2) := by decide +kernel
theorem dc_K_mediaTime_41 : decode bb_K_mediaTime 41 = .ok (.if_icmp .ge 33, 3) := by decide +kernel
theorem dc_K_mediaTime_44 : decode bb_K_mediaTime 44 = .ok (.aload_n 0, 1) := by decide +kernel
theorem dc_K_mediaTime_45 : decode bb_K_mediaTime 45 = .ok (.getfield 36, 3) := by decide +kernel
theorem dc_K_mediaTime_48 : decode bb_K_mediaTime 48 = .ok (.iload_n 3, 1) := by decide +kernel
theorem dc_K_mediaTime_49 : decode bb_K_mediaTime 49 = .ok (.iconst 1, 1) := by decide +kernel
theorem dc_K_mediaTime_50 : decode bb_K_mediaTime 50 = .ok (.invokevirtual 77, 3) := by decide +kernel
theorem dc_K_mediaTime_53 : decode bb_K_mediaTime 53 = .ok (.istore 5, 2) := by decide +kernel
theorem dc_K_mediaTime_55 : decode bb_K_mediaTime 55 = .ok (.iload 5, 2) := by decide +kernel
theorem dc_K_mediaTime_57 : decode bb_K_mediaTime 57 = .ok (.sipush 255, 3) := by decide +kernel
theorem dc_K_mediaTime_60 : decode bb_K_mediaTime 60 = .ok (.if_icmp .ne 9, 3) := by decide +kernel
theorem dc_K_mediaTime_63 : decode bb_K_mediaTime 63 = .ok (.sipush (-1000), 3) := by decide +kernel
theorem dc_K_mediaTime_66 : decode bb_K_mediaTime 66 = .ok (.goto 7, 3) := by decide +kernel
theorem dc_K_mediaTime_69 : decode bb_K_mediaTime 69 = .ok (.iload 5, 2) := by decide +kernel
theorem dc_K_mediaTime_71 : decode bb_K_mediaTime 71 = .ok (.iload_n 2, 1) := by decide +kernel
theorem dc_K_mediaTime_72 : decode bb_K_mediaTime 72 = .ok (.iadd, 1) := by decide +kernel
theorem dc_K_mediaTime_73 : decode bb_K_mediaTime 73 = .ok (.ireturn, 1) := by decide +kernel
theorem dc_K_mediaTime_74 : decode bb_K_mediaTime 74 = .ok (.iload_n 2, 1) := by decide +kernel
theorem dc_K_mediaTime_75 : decode bb_K_mediaTime 75 = .ok (.iload 4, 2) := by decide +kernel
theorem dc_K_mediaTime_77 : decode bb_K_mediaTime 77 = .ok (.isub, 1) := by decide +kernel
theorem dc_K_mediaTime_78 : decode bb_K_mediaTime 78 = .ok (.istore_n 2, 1) := by decide +kernel
theorem dc_K_mediaTime_79 : decode bb_K_mediaTime 79 = .ok (.iinc 3 1, 3) := by decide +kernel
theorem dc_K_mediaTime_82 : decode bb_K_mediaTime 82 = .ok (.goto (-66), 3) := by decide +kernel
theorem dc_K_mediaTime_85 : decode bb_K_mediaTime 85 = .ok (.sipush (-1000), 3) := by decide +kernel
theorem dc_K_mediaTime_88 : decode bb_K_mediaTime 88 = .ok (.ireturn, 1) := by decide +kernel
theorem dc_M_fastStart_0 : decode bb_M_fastStart 0 = .ok (.aload_n 0, 1) := by decide +kernel
theorem dc_M_fastStart_1 : decode bb_M_fastStart 1 = .ok (.invokevirtual 75, 3) := by decide +kernel
theorem dc_M_fastStart_4 : decode bb_M_fastStart 4 = .ok (.aload_n 0, 1) := by decide +kernel
theorem dc_M_fastStart_5 : decode bb_M_fastStart 5 = .ok (.getfield 45, 3) := by decide +kernel
theorem dc_M_fastStart_8 : decode bb_M_fastStart 8 = .ok (.ifCond .eq 5, 3) := by decide +kernel
theorem dc_M_fastStart_11 : decode bb_M_fastStart 11 = .ok (.iconst (-1), 1) := by decide +kernel
theorem dc_M_fastStart_12 : decode bb_M_fastStart 12 = .ok (.ireturn, 1) := by decide +kernel
theorem dc_M_fastStart_13 : decode bb_M_fastStart 13 = .ok (.aload_n 0, 1) := by decide +kernel
theorem dc_M_fastStart_14 : decode bb_M_fastStart 14 = .ok (.getfield 21, 3) := by decide +kernel
theorem dc_M_fastStart_17 : decode bb_M_fastStart 17 = .ok (.iconst (-1), 1) := by decide +kernel
theorem dc_M_fastStart_18 : decode bb_M_fastStart 18 = .ok (.bipush 77, 2) := by decide +kernel
theorem dc_M_fastStart_20 : decode bb_M_fastStart 20 = .ok (.invokevirtual 98, 3) := by decide +kernel
theorem dc_M_fastStart_23 : decode bb_M_fastStart 23 = .ok (.istore_n 1, 1) := by decide +kernel
theorem dc_M_fastStart_24 : decode bb_M_fastStart 24 = .ok (.aload_n 0, 1) := by decide +kernel
theorem dc_M_fastStart_25 : decode bb_M_fastStart 25 = .ok (.getfield 21, 3) := by decide +kernel
theorem dc_M_fastStart_28 : decode bb_M_fastStart 28 = .ok (.iconst (-1), 1) := by decide +kernel
theorem dc_M_fastStart_29 : decode bb_M_fastStart 29 = .ok (.bipush 68, 2) := by decide +kernel
theorem dc_M_fastStart_31 : decode bb_M_fastStart 31 = .ok (.invokevirtual 98, 3) := by decide +kernel
theorem dc_M_fastStart_34 : decode bb_M_fastStart 34 = .ok (.istore_n 2, 1) := by decide +kernel
theorem dc_M_fastStart_35 : decode bb_M_fastStart 35 = .ok (.iload_n 2, 1) := by decide +kernel
theorem dc_M_fastStart_36 : decode bb_M_fastStart 36 = .ok (.ifCond .lt 8, 3) := by decide +kernel
theorem dc_M_fastStart_39 : decode bb_M_fastStart 39 = .ok (.iload_n 1, 1) := by decide +kernel
theorem dc_M_fastStart_40 : decode bb_M_fastStart 40 = .ok (.iload_n 2, 1) := by decide +kernel
theorem dc_M_fastStart_41 : decode bb_M_fastStart 41 = .ok (.if_icmp .ge 13, 3) := by decide +kernel
theorem dc_M_fastStart_44 : decode bb_M_fastStart 44 = .ok (.aload_n 0, 1) := by decide +kernel
theorem dc_M_fastStart_45 : decode bb_M_fastStart 45 = .ok (.getfield 21, 3) := by decide +kernel
theorem dc_M_fastStart_48 : decode bb_M_fastStart 48 = .ok (.iload_n 1, 1) := by decide +kernel
theorem dc_M_fastStart_49 : decode bb_M_fastStart 49 = .ok (.iconst 1, 1) := by decide +kernel
theorem dc_M_fastStart_50 : decode bb_M_fastStart 50 = .ok (.invokevirtual 83, 3) := by decide +kernel
theorem dc_M_fastStart_53 : decode bb_M_fastStart 53 = .ok (.ireturn, 1) := by decide +kernel
theorem dc_M_fastStart_54 : decode bb_M_fastStart 54 = .ok (.aload_n 0, 1) := by decide +kernel
theorem dc_M_fastStart_55 : decode bb_M_fastStart 55 = .ok (.getfield 37, 3) := by decide +kernel
theorem dc_M_fastStart_58 : decode bb_M_fastStart 58 = .ok (.iload_n 1, 1) := by decide +kernel
theorem dc_M_fastStart_59 : decode bb_M_fastStart 59 = .ok (.iload_n 2, 1) := by decide +kernel
theorem dc_M_fastStart_60 : decode bb_M_fastStart 60 = .ok (.invokevirtual 101, 3) := by decide +kernel
theorem dc_M_fastStart_63 : decode bb_M_fastStart 63 = .ok (.istore_n 3, 1) := by decide +kernel
theorem dc_M_fastStart_64 : decode bb_M_fastStart 64 = .ok (.aload_n 0, 1) := by decide +kernel
theorem dc_M_fastStart_65 : decode bb_M_fastStart 65 = .ok (.iconst 1, 1) := by decide +kernel
theorem dc_M_fastStart_66 : decode bb_M_fastStart 66 = .ok (.putfield 48, 3) := by decide +kernel
theorem dc_M_fastStart_69 : decode bb_M_fastStart 69 = .ok (.iload_n 3, 1) := by decide +kernel
theorem dc_M_fastStart_70 : decode bb_M_fastStart 70 = .ok (.ireturn, 1) := by decide +kernel
theorem dc_V_move_0 : decode bb_V_move 0 = .ok (.aload_n 0, 1) := by decide +kernel
theorem dc_V_move_1 : decode bb_V_move 1 = .ok (.iload_n 1, 1) := by decide +kernel
theorem dc_V_move_2 : decode bb_V_move 2 = .ok (.putfield 36, 3) := by decide +kernel
theorem dc_V_move_5 : decode bb_V_move 5 = .ok (.aload_n 0, 1) := by decide +kernel
theorem dc_V_move_6 : decode bb_V_move 6 = .ok (.aload_n 0, 1) := by decide +kernel
theorem dc_V_move_7 : decode bb_V_move 7 = .ok (.invokevirtual 43, 3) := by decide +kernel
theorem dc_V_move_10 : decode bb_V_move 10 = .ok (.putfield 40, 3) := by decide +kernel
theorem dc_V_move_13 : decode bb_V_move 13 = .ok (.aload_n 0, 1) := by decide +kernel
theorem dc_V_move_14 : decode bb_V_move 14 = .ok (.invokevirtual 47, 3) := by decide +kernel
theorem dc_V_move_17 : decode bb_V_move 17 = .ok (.aload_n 0, 1) := by decide +kernel
theorem dc_V_move_18 : decode bb_V_move 18 = .ok (.getfield 15, 3) := by decide +kernel
theorem dc_V_move_21 : decode bb_V_move 21 = .ok (.aload_n 0, 1) := by decide +kernel
theorem dc_V_move_22 : decode bb_V_move 22 = .ok (.getfield 36, 3) := by decide +kernel
theorem dc_V_move_25 : decode bb_V_move 25 = .ok (.iconst 1, 1) := by decide +kernel
theorem dc_V_move_26 : decode bb_V_move 26 = .ok (.invokevirtual 52, 3) := by decide +kernel
theorem dc_V_move_29 : decode bb_V_move 29 = .ok (.istore_n 3, 1) := by decide +kernel
theorem dc_V_move_30 : decode bb_V_move 30 = .ok (.aload_n 0, 1) := by decide +kernel
theorem dc_V_move_31 : decode bb_V_move 31 = .ok (.getfield 9, 3) := by decide +kernel
theorem dc_V_move_34 : decode bb_V_move 34 = .ok (.invokevirtual 56, 3) := by decide +kernel
theorem dc_V_move_37 : decode bb_V_move 37 = .ok (.iload_n 3, 1) := by decide +kernel
theorem dc_V_move_38 : decode bb_V_move 38 = .ok (.isub, 1) := by decide +kernel
theorem dc_V_move_39 : decode bb_V_move 39 = .ok (.aload_n 0, 1) := by decide +kernel
theorem dc_V_move_40 : decode bb_V_move 40 = .ok (.aload_n 0, 1) := by decide +kernel
theorem dc_V_move_41 : decode bb_V_move 41 = .ok (.getfield 36, 3) := by decide +kernel
theorem dc_V_move_44 : decode bb_V_move 44 = .ok (.invokevirtual 59, 3) := by decide +kernel
theorem dc_V_move_47 : decode bb_V_move 47 = .ok (.iadd, 1) := by decide +kernel
theorem dc_V_move_48 : decode bb_V_move 48 = .ok (.sipush 1000, 3) := by decide +kernel
theorem dc_V_move_51 : decode bb_V_move 51 = .ok (.if_icmp .le 6, 3) := by decide +kernel
theorem dc_V_move_54 : decode bb_V_move 54 = .ok (.bipush (-2), 2) := by decide +kernel
theorem dc_V_move_56 : decode bb_V_move 56 = .ok (.ireturn, 1) := by decide +kernel
theorem dc_V_move_57 : decode bb_V_move 57 = .ok (.aload_n 0, 1) := by decide +kernel
theorem dc_V_move_58 : decode bb_V_move 58 = .ok (.getfield 15, 3) := by decide +kernel
theorem dc_V_move_61 : decode bb_V_move 61 = .ok (.iload_n 2, 1) := by decide +kernel
theorem dc_V_move_62 : decode bb_V_move 62 = .ok (.iconst 0, 1) := by decide +kernel
theorem dc_V_move_63 : decode bb_V_move 63 = .ok (.invokevirtual 52, 3) := by decide +kernel
theorem dc_V_move_66 : decode bb_V_move 66 = .ok (.istore 4, 2) := by decide +kernel
theorem dc_V_move_68 : decode bb_V_move 68 = .ok (.aload_n 0, 1) := by decide +kernel
theorem dc_V_move_69 : decode bb_V_move 69 = .ok (.getfield 22, 3) := by decide +kernel
theorem dc_V_move_72 : decode bb_V_move 72 = .ok (.iconst 0, 1) := by decide +kernel
theorem dc_V_move_73 : decode bb_V_move 73 = .ok (.invokevirtual 63, 3) := by decide +kernel
theorem dc_V_move_76 : decode bb_V_move 76 = .ok (.aload_n 0, 1) := by decide +kernel
theorem dc_V_move_77 : decode bb_V_move 77 = .ok (.getfield 22, 3) := by decide +kernel
theorem dc_V_move_80 : decode bb_V_move 80 = .ok (.aload_n 0, 1) := by decide +kernel
theorem dc_V_move_81 : decode bb_V_move 81 = .ok (.getfield 9, 3) := by decide +kernel
theorem dc_V_move_84 : decode bb_V_move 84 = .ok (.iconst 0, 1) := by decide +kernel
theorem dc_V_move_85 : decode bb_V_move 85 = .ok (.iload 4, 2) := by decide +kernel
theorem dc_V_move_87 : decode bb_V_move 87 = .ok (.invokevirtual 67, 3) := by decide +kernel
theorem dc_V_move_90 : decode bb_V_move 90 = .ok (.aload_n 0, 1) := by decide +kernel
theorem dc_V_move_91 : decode bb_V_move 91 = .ok (.getfield 36, 3) := by decide +kernel
theorem dc_V_move_94 : decode bb_V_move 94 = .ok (.istore 5, 2) := by decide +kernel
theorem dc_V_move_96 : decode bb_V_move 96 = .ok (.iload 5, 2) := by decide +kernel
theorem dc_V_move_98 : decode bb_V_move 98 = .ok (.aload_n 0, 1) := by decide +kernel
theorem dc_V_move_99 : decode bb_V_move 99 = .ok (.getfield 40, 3) := by decide +kernel
theorem dc_V_move_102 : decode bb_V_move 102 = .ok (.if_icmp .ge 15, 3) := by decide +kernel
theorem dc_V_move_105 : decode bb_V_move 105 = .ok (.aload_n 0, 1) := by decide +kernel
theorem dc_V_move_106 : decode bb_V_move 106 = .ok (.iload 5, 2) := by decide +kernel
theorem dc_V_move_108 : decode bb_V_move 108 = .ok (.invokevirtual 71, 3) := by decide +kernel
theorem dc_V_move_111 : decode bb_V_move 111 = .ok (.iinc 5 1, 3) := by decide +kernel
theorem dc_V_move_114 : decode bb_V_move 114 = .ok (.goto (-18), 3) := by decide +kernel
theorem dc_V_move_117 : decode bb_V_move 117 = .ok (.aload_n 0, 1) := by decide +kernel
theorem dc_V_move_118 : decode bb_V_move 118 = .ok (.getfield 22, 3) := by decide +kernel
theorem dc_V_move_121 : decode bb_V_move 121 = .ok (.aload_n 0, 1) := by decide +kernel
theorem dc_V_move_122 : decode bb_V_move 122 = .ok (.getfield 9, 3) := by decide +kernel
theorem dc_V_move_125 : decode bb_V_move 125 = .ok (.iload 4, 2) := by decide +kernel
theorem dc_V_move_127 : decode bb_V_move 127 = .ok (.aload_n 0, 1) := by decide +kernel
theorem dc_V_move_128 : decode bb_V_move 128 = .ok (.getfield 15, 3) := by decide +kernel
theorem dc_V_move_131 : decode bb_V_move 131 = .ok (.aload_n 0, 1) := by decide +kernel
theorem dc_V_move_132 : decode bb_V_move 132 = .ok (.getfield 36, 3) := by decide +kernel
theorem dc_V_move_135 : decode bb_V_move 135 = .ok (.iconst 0, 1) := by decide +kernel
theorem dc_V_move_136 : decode bb_V_move 136 = .ok (.invokevirtual 52, 3) := by decide +kernel
theorem dc_V_move_139 : decode bb_V_move 139 = .ok (.invokevirtual 67, 3) := by decide +kernel
theorem dc_V_move_142 : decode bb_V_move 142 = .ok (.aload_n 0, 1) := by decide +kernel
theorem dc_V_move_143 : decode bb_V_move 143 = .ok (.getfield 22, 3) := by decide +kernel
theorem dc_V_move_146 : decode bb_V_move 146 = .ok (.aload_n 0, 1) := by decide +kernel
theorem dc_V_move_147 : decode bb_V_move 147 = .ok (.getfield 9, 3) := by decide +kernel
theorem dc_V_move_150 : decode bb_V_move 150 = .ok (.aload_n 0, 1) := by decide +kernel
theorem dc_V_move_151 : decode bb_V_move 151 = .ok (.getfield 15, 3) := by decide +kernel
theorem dc_V_move_154 : decode bb_V_move 154 = .ok (.aload_n 0, 1) := by decide +kernel
theorem dc_V_move_155 : decode bb_V_move 155 = .ok (.getfield 36, 3) := by decide +kernel
theorem dc_V_move_158 : decode bb_V_move 158 = .ok (.invokevirtual 74, 3) := by decide +kernel
theorem dc_V_move_161 : decode bb_V_move 161 = .ok (.aload_n 0, 1) := by decide +kernel
theorem dc_V_move_162 : decode bb_V_move 162 = .ok (.getfield 9, 3) := by decide +kernel
theorem dc_V_move_165 : decode bb_V_move 165 = .ok (.invokevirtual 56, 3) := by decide +kernel
theorem dc_V_move_168 : decode bb_V_move 168 = .ok (.invokevirtual 67, 3) := by decide +kernel
theorem dc_V_move_171 : decode bb_V_move 171 = .ok (.aload_n 0, 1) := by decide +kernel
theorem dc_V_move_172 : decode bb_V_move 172 = .ok (.aload_n 0, 1) := by decide +kernel
theorem dc_V_move_173 : decode bb_V_move 173 = .ok (.getfield 36, 3) := by decide +kernel
theorem dc_V_move_176 : decode bb_V_move 176 = .ok (.invokevirtual 59, 3) := by decide +kernel
theorem dc_V_move_179 : decode bb_V_move 179 = .ok (.istore 5, 2) := by decide +kernel
theorem dc_V_move_181 : decode bb_V_move 181 = .ok (.aload_n 0, 1) := by decide +kernel
theorem dc_V_move_182 : decode bb_V_move 182 = .ok (.getfield 9, 3) := by decide +kernel
theorem dc_V_move_185 : decode bb_V_move 185 = .ok (.aload_n 0, 1) := by decide +kernel
theorem dc_V_move_186 : decode bb_V_move 186 = .ok (.getfield 22, 3) := by decide +kernel
theorem dc_V_move_189 : decode bb_V_move 189 = .ok (.invokevirtual 77, 3) := by decide +kernel
theorem dc_V_move_192 : decode bb_V_move 192 = .ok (.iload 5, 2) := by decide +kernel
theorem dc_V_move_194 : decode bb_V_move 194 = .ok (.ireturn, 1) := by decide +kernel
theorem dc_V_behindMovie_0 : decode bb_V_behindMovie 0 = .ok (.aload_n 0, 1) := by decide +kernel
theorem dc_V_behindMovie_1 : decode bb_V_behindMovie 1 = .ok (.getfield 36, 3) := by decide +kernel
theorem dc_V_behindMovie_4 : decode bb_V_behindMovie 4 = .ok (.iconst 1, 1) := by decide +kernel
theorem dc_V_behindMovie_5 : decode bb_V_behindMovie 5 = .ok (.iadd, 1) := by decide +kernel
theorem dc_V_behindMovie_6 : decode bb_V_behindMovie 6 = .ok (.istore_n 1, 1) := by decide +kernel
theorem dc_V_behindMovie_7 : decode bb_V_behindMovie 7 = .ok (.iload_n 1, 1) := by decide +kernel
theorem dc_V_behindMovie_8 : decode bb_V_behindMovie 8 = .ok (.aload_n 0, 1) := by decide +kernel
theorem dc_V_behindMovie_9 : decode bb_V_behindMovie 9 = .ok (.getfield 15, 3) := by decide +kernel
theorem dc_V_behindMovie_12 : decode bb_V_behindMovie 12 = .ok (.invokevirtual 81, 3) := by decide +kernel
theorem dc_V_behindMovie_15 : decode bb_V_behindMovie 15 = .ok (.if_icmp .ge 23, 3) := by decide +kernel
theorem dc_V_behindMovie_18 : decode bb_V_behindMovie 18 = .ok (.aload_n 0, 1) := by decide +kernel
theorem dc_V_behindMovie_19 : decode bb_V_behindMovie 19 = .ok (.getfield 15, 3) := by decide +kernel
theorem dc_V_behindMovie_22 : decode bb_V_behindMovie 22 = .ok (.iload_n 1, 1) := by decide +kernel
theorem dc_V_behindMovie_23 : decode bb_V_behindMovie 23 = .ok (.iconst 4, 1) := by decide +kernel
theorem dc_V_behindMovie_24 : decode bb_V_behindMovie 24 = .ok (.invokevirtual 52, 3) := by decide +kernel
theorem dc_V_behindMovie_27 : decode bb_V_behindMovie 27 = .ok (.ifCond .ne 5, 3) := by decide +kernel
theorem dc_V_behindMovie_30 : decode bb_V_behindMovie 30 = .ok (.iload_n 1, 1) := by decide +kernel
theorem dc_V_behindMovie_31 : decode bb_V_behindMovie 31 = .ok (.ireturn, 1) := by decide +kernel
theorem dc_V_behindMovie_32 : decode bb_V_behindMovie 32 = .ok (.iinc 1 1, 3) := by decide +kernel
theorem dc_V_behindMovie_35 : decode bb_V_behindMovie 35 = .ok (.goto (-28), 3) := by decide +kernel
theorem dc_V_behindMovie_38 : decode bb_V_behindMovie 38 = .ok (.aload_n 0, 1) := by decide +kernel
theorem dc_V_behindMovie_39 : decode bb_V_behindMovie 39 = .ok (.getfield 15, 3) := by decide +kernel
theorem dc_V_behindMovie_42 : decode bb_V_behindMovie 42 = .ok (.invokevirtual 81, 3) := by decide +kernel
theorem dc_V_behindMovie_45 : decode bb_V_behindMovie 45 = .ok (.ireturn, 1) := by decide +kernel
theorem dc_V_settleWidths_0 : decode bb_V_settleWidths 0 = .ok (.iconst 0, 1) := by decide +kernel
theorem dc_V_settleWidths_1 : decode bb_V_settleWidths 1 = .ok (.istore_n 1, 1) := by decide +kernel
theorem dc_V_settleWidths_2 : decode bb_V_settleWidths 2 = .ok (.iload_n 1, 1) := by decide +kernel
theorem dc_V_settleWidths_3 : decode bb_V_settleWidths 3 = .ok (.bipush 20, 2) := by decide +kernel
theorem dc_V_settleWidths_5 : decode bb_V_settleWidths 5 = .ok (.if_icmp .ge 16, 3) := by decide +kernel
theorem dc_V_settleWidths_8 : decode bb_V_settleWidths 8 = .ok (.aload_n 0, 1) := by decide +kernel
theorem dc_V_settleWidths_9 : decode bb_V_settleWidths 9 = .ok (.getfield 25, 3) := by decide +kernel
theorem dc_V_settleWidths_12 : decode bb_V_settleWidths 12 = .ok (.iload_n 1, 1) := by decide +kernel
theorem dc_V_settleWidths_13 : decode bb_V_settleWidths 13 = .ok (.iconst 0, 1) := by decide +kernel
theorem dc_V_settleWidths_14 : decode bb_V_settleWidths 14 = .ok (.bastore, 1) := by decide +kernel
theorem dc_V_settleWidths_15 : decode bb_V_settleWidths 15 = .ok (.iinc 1 1, 3) := by decide +kernel
theorem dc_V_settleWidths_18 : decode bb_V_settleWidths 18 = .ok (.goto (-16), 3) := by decide +kernel
theorem dc_V_settleWidths_21 : decode bb_V_settleWidths 21 = .ok (.aload_n 0, 1) := by decide +kernel
theorem dc_V_settleWidths_22 : decode bb_V_settleWidths 22 = .ok (.invokevirtual 82, 3) := by decide +kernel
theorem dc_V_settleWidths_25 : decode bb_V_settleWidths 25 = .ok (.iconst 0, 1) := by decide +kernel
theorem dc_V_settleWidths_26 : decode bb_V_settleWidths 26 = .ok (.istore_n 1, 1) := by decide +kernel
theorem dc_V_settleWidths_27 : decode bb_V_settleWidths 27 = .ok (.iload_n 1, 1) := by decide +kernel
theorem dc_V_settleWidths_28 : decode bb_V_settleWidths 28 = .ok (.bipush 20, 2) := by decide +kernel
theorem dc_V_settleWidths_30 : decode bb_V_settleWidths 30 = .ok (.if_icmp .ge 20, 3) := by decide +kernel
theorem dc_V_settleWidths_33 : decode bb_V_settleWidths 33 = .ok (.aload_n 0, 1) := by decide +kernel
theorem dc_V_settleWidths_34 : decode bb_V_settleWidths 34 = .ok (.invokevirtual 85, 3) := by decide +kernel
theorem dc_V_settleWidths_37 : decode bb_V_settleWidths 37 = .ok (.ifCond .eq 13, 3) := by decide +kernel
theorem dc_V_settleWidths_40 : decode bb_V_settleWidths 40 = .ok (.aload_n 0, 1) := by decide +kernel
theorem dc_V_settleWidths_41 : decode bb_V_settleWidths 41 = .ok (.invokevirtual 82, 3) := by decide +kernel
theorem dc_V_settleWidths_44 : decode bb_V_settleWidths 44 = .ok (.iinc 1 1, 3) := by decide +kernel
theorem dc_V_settleWidths_47 : decode bb_V_settleWidths 47 = .ok (.goto (-20), 3) := by decide +kernel
theorem dc_V_settleWidths_50 : decode bb_V_settleWidths 50 = .ok (.return_, 1) := by decide +kernel
theorem dc_V_measure_0 : decode bb_V_measure 0 = .ok (.aload_n 0, 1) := by decide +kernel
theorem dc_V_measure_1 : decode bb_V_measure 1 = .ok (.getfield 36, 3) := by decide +kernel
theorem dc_V_measure_4 : decode bb_V_measure 4 = .ok (.istore_n 1, 1) := by decide +kernel
theorem dc_V_measure_5 : decode bb_V_measure 5 = .ok (.iload_n 1, 1) := by decide +kernel
theorem dc_V_measure_6 : decode bb_V_measure 6 = .ok (.aload_n 0, 1) := by decide +kernel
theorem dc_V_measure_7 : decode bb_V_measure 7 = .ok (.getfield 40, 3) := by decide +kernel
theorem dc_V_measure_10 : decode bb_V_measure 10 = .ok (.if_icmp .ge 20, 3) := by decide +kernel
theorem dc_V_measure_13 : decode bb_V_measure 13 = .ok (.aload_n 0, 1) := by decide +kernel
theorem dc_V_measure_14 : decode bb_V_measure 14 = .ok (.getfield 29, 3) := by decide +kernel
theorem dc_V_measure_17 : decode bb_V_measure 17 = .ok (.iload_n 1, 1) := by decide +kernel
theorem dc_V_measure_18 : decode bb_V_measure 18 = .ok (.aload_n 0, 1) := by decide +kernel
theorem dc_V_measure_19 : decode bb_V_measure 19 = .ok (.iload_n 1, 1) := by decide +kernel
theorem dc_V_measure_20 : decode bb_V_measure 20 = .ok (.invokevirtual 89, 3) := by decide +kernel
theorem dc_V_measure_23 : decode bb_V_measure 23 = .ok (.iastore, 1) := by decide +kernel
theorem dc_V_measure_24 : decode bb_V_measure 24 = .ok (.iinc 1 1, 3) := by decide +kernel
theorem dc_V_measure_27 : decode bb_V_measure 27 = .ok (.goto (-22), 3) := by decide +kernel
theorem dc_V_measure_30 : decode bb_V_measure 30 = .ok (.aload_n 0, 1) := by decide +kernel
theorem dc_V_measure_31 : decode bb_V_measure 31 = .ok (.getfield 40, 3) := by decide +kernel
theorem dc_V_measure_34 : decode bb_V_measure 34 = .ok (.iconst 1, 1) := by decide +kernel
theorem dc_V_measure_35 : decode bb_V_measure 35 = .ok (.isub, 1) := by decide +kernel
theorem dc_V_measure_36 : decode bb_V_measure 36 = .ok (.istore_n 1, 1) := by decide +kernel
theorem dc_V_measure_37 : decode bb_V_measure 37 = .ok (.iload_n 1, 1) := by decide +kernel
theorem dc_V_measure_38 : decode bb_V_measure 38 = .ok (.aload_n 0, 1) := by decide +kernel
theorem dc_V_measure_39 : decode bb_V_measure 39 = .ok (.getfield 36, 3) := by decide +kernel
theorem dc_V_measure_42 : decode bb_V_measure 42 = .ok (.if_icmp .lt 57, 3) := by decide +kernel
theorem dc_V_measure_45 : decode bb_V_measure 45 = .ok (.aload_n 0, 1) := by decide +kernel
theorem dc_V_measure_46 : decode bb_V_measure 46 = .ok (.getfield 33, 3) := by decide +kernel
theorem dc_V_measure_49 : decode bb_V_measure 49 = .ok (.iload_n 1, 1) := by decide +kernel
theorem dc_V_measure_50 : decode bb_V_measure 50 = .ok (.aload_n 0, 1) := by decide +kernel
theorem dc_V_measure_51 : decode bb_V_measure 51 = .ok (.iload_n 1, 1) := by decide +kernel
theorem dc_V_measure_52 : decode bb_V_measure 52 = .ok (.invokevirtual 92, 3) := by decide +kernel
theorem dc_V_measure_55 : decode bb_V_measure 55 = .ok (.iastore, 1) := by decide +kernel
theorem dc_V_measure_56 : decode bb_V_measure 56 = .ok (.aload_n 0, 1) := by decide +kernel
theorem dc_V_measure_57 : decode bb_V_measure 57 = .ok (.getfield 15, 3) := by decide +kernel
theorem dc_V_measure_60 : decode bb_V_measure 60 = .ok (.iload_n 1, 1) := by decide +kernel
theorem dc_V_measure_61 : decode bb_V_measure 61 = .ok (.iconst 5, 1) := by decide +kernel
theorem dc_V_measure_62 : decode bb_V_measure 62 = .ok (.invokevirtual 52, 3) := by decide +kernel
theorem dc_V_measure_65 : decode bb_V_measure 65 = .ok (.istore_n 2, 1) := by decide +kernel
theorem dc_V_measure_66 : decode bb_V_measure 66 = .ok (.iload_n 2, 1) := by decide +kernel
theorem dc_V_measure_67 : decode bb_V_measure 67 = .ok (.aload_n 0, 1) := by decide +kernel
theorem dc_V_measure_68 : decode bb_V_measure 68 = .ok (.getfield 36, 3) := by decide +kernel
theorem dc_V_measure_71 : decode bb_V_measure 71 = .ok (.if_icmp .lt 22, 3) := by decide +kernel
theorem dc_V_measure_74 : decode bb_V_measure 74 = .ok (.iload_n 2, 1) := by decide +kernel
theorem dc_V_measure_75 : decode bb_V_measure 75 = .ok (.iload_n 1, 1) := by decide +kernel
theorem dc_V_measure_76 : decode bb_V_measure 76 = .ok (.if_icmp .ge 17, 3) := by decide +kernel
theorem dc_V_measure_79 : decode bb_V_measure 79 = .ok (.aload_n 0, 1) := by decide +kernel
theorem dc_V_measure_80 : decode bb_V_measure 80 = .ok (.getfield 29, 3) := by decide +kernel
theorem dc_V_measure_83 : decode bb_V_measure 83 = .ok (.iload_n 2, 1) := by decide +kernel
theorem dc_V_measure_84 : decode bb_V_measure 84 = .ok (.dup2, 1) := by decide +kernel
theorem dc_V_measure_85 : decode bb_V_measure 85 = .ok (.iaload, 1) := by decide +kernel
theorem dc_V_measure_86 : decode bb_V_measure 86 = .ok (.aload_n 0, 1) := by decide +kernel
theorem dc_V_measure_87 : decode bb_V_measure 87 = .ok (.iload_n 1, 1) := by decide +kernel
theorem dc_V_measure_88 : decode bb_V_measure 88 = .ok (.invokevirtual 59, 3) := by decide +kernel
theorem dc_V_measure_91 : decode bb_V_measure 91 = .ok (.iadd, 1) := by decide +kernel
theorem dc_V_measure_92 : decode bb_V_measure 92 = .ok (.iastore, 1) := by decide +kernel
theorem dc_V_measure_93 : decode bb_V_measure 93 = .ok (.iinc 1 (-1), 3) := by decide +kernel
theorem dc_V_measure_96 : decode bb_V_measure 96 = .ok (.goto (-59), 3) := by decide +kernel
theorem dc_V_measure_99 : decode bb_V_measure 99 = .ok (.return_, 1) := by decide +kernel
theorem dc_V_ownPayload_0 : decode bb_V_ownPayload 0 = .ok (.aload_n 0, 1) := by decide +kernel
theorem dc_V_ownPayload_1 : decode bb_V_ownPayload 1 = .ok (.getfield 15, 3) := by decide +kernel
theorem dc_V_ownPayload_4 : decode bb_V_ownPayload 4 = .ok (.iload_n 1, 1) := by decide +kernel
theorem dc_V_ownPayload_5 : decode bb_V_ownPayload 5 = .ok (.invokevirtual 95, 3) := by decide +kernel
theorem dc_V_ownPayload_8 : decode bb_V_ownPayload 8 = .ok (.ifCond .eq 5, 3) := by decide +kernel
theorem dc_V_ownPayload_11 : decode bb_V_ownPayload 11 = .ok (.iconst 0, 1) := by decide +kernel
theorem dc_V_ownPayload_12 : decode bb_V_ownPayload 12 = .ok (.ireturn, 1) := by decide +kernel
theorem dc_V_ownPayload_13 : decode bb_V_ownPayload 13 = .ok (.aload_n 0, 1) := by decide +kernel
theorem dc_V_ownPayload_14 : decode bb_V_ownPayload 14 = .ok (.getfield 15, 3) := by decide +kernel
theorem dc_V_ownPayload_17 : decode bb_V_ownPayload 17 = .ok (.iload_n 1, 1) := by decide +kernel
theorem dc_V_ownPayload_18 : decode bb_V_ownPayload 18 = .ok (.invokevirtual 99, 3) := by decide +kernel
theorem dc_V_ownPayload_21 : decode bb_V_ownPayload 21 = .ok (.istore_n 2, 1) := by decide +kernel
theorem dc_V_ownPayload_22 : decode bb_V_ownPayload 22 = .ok (.aload_n 0, 1) := by decide +kernel
theorem dc_V_ownPayload_23 : decode bb_V_ownPayload 23 = .ok (.getfield 25, 3) := by decide +kernel
theorem dc_V_ownPayload_26 : decode bb_V_ownPayload 26 = .ok (.iload_n 1, 1) := by decide +kernel
theorem dc_V_ownPayload_27 : decode bb_V_ownPayload 27 = .ok (.baload, 1) := by decide +kernel
theorem dc_V_ownPayload_28 : decode bb_V_ownPayload 28 = .ok (.ifCond .eq 13, 3) := by decide +kernel
theorem dc_V_ownPayload_31 : decode bb_V_ownPayload 31 = .ok (.iload_n 2, 1) := by decide +kernel
theorem dc_V_ownPayload_32 : decode bb_V_ownPayload 32 = .ok (.aload_n 0, 1) := by decide +kernel
theorem dc_V_ownPayload_33 : decode bb_V_ownPayload 33 = .ok (.iload_n 1, 1) := by decide +kernel
theorem dc_V_ownPayload_34 : decode bb_V_ownPayload 34 = .ok (.invokevirtual 102, 3) := by decide +kernel
theorem dc_V_ownPayload_37 : decode bb_V_ownPayload 37 = .ok (.iadd, 1) := by decide +kernel
theorem dc_V_ownPayload_38 : decode bb_V_ownPayload 38 = .ok (.goto 4, 3) := by decide +kernel
theorem dc_V_ownPayload_41 : decode bb_V_ownPayload 41 = .ok (.iload_n 2, 1) := by decide +kernel
theorem dc_V_ownPayload_42 : decode bb_V_ownPayload 42 = .ok (.ireturn, 1) := by decide +kernel
theorem dc_V_rowsOf_0 : decode bb_V_rowsOf 0 = .ok (.aload_n 0, 1) := by decide +kernel
theorem dc_V_rowsOf_1 : decode bb_V_rowsOf 1 = .ok (.getfield 9, 3) := by decide +kernel
theorem dc_V_rowsOf_4 : decode bb_V_rowsOf 4 = .ok (.aload_n 0, 1) := by decide +kernel
theorem dc_V_rowsOf_5 : decode bb_V_rowsOf 5 = .ok (.getfield 15, 3) := by decide +kernel
theorem dc_V_rowsOf_8 : decode bb_V_rowsOf 8 = .ok (.iload_n 1, 1) := by decide +kernel
theorem dc_V_rowsOf_9 : decode bb_V_rowsOf 9 = .ok (.invokevirtual 105, 3) := by decide +kernel
theorem dc_V_rowsOf_12 : decode bb_V_rowsOf 12 = .ok (.invokevirtual 108, 3) := by decide +kernel
theorem dc_V_rowsOf_15 : decode bb_V_rowsOf 15 = .ok (.ireturn, 1) := by decide +kernel
theorem dc_V_newHeader_0 : decode bb_V_newHeader 0 = .ok (.aload_n 0, 1) := by decide +kernel
theorem dc_V_newHeader_1 : decode bb_V_newHeader 1 = .ok (.getfield 29, 3) := by decide +kernel
theorem dc_V_newHeader_4 : decode bb_V_newHeader 4 = .ok (.iload_n 1, 1) := by decide +kernel
theorem dc_V_newHeader_5 : decode bb_V_newHeader 5 = .ok (.iaload, 1) := by decide +kernel
theorem dc_V_newHeader_6 : decode bb_V_newHeader 6 = .ok (.iconst 2, 1) := by decide +kernel
theorem dc_V_newHeader_7 : decode bb_V_newHeader 7 = .ok (.iadd, 1) := by decide +kernel
theorem dc_V_newHeader_8 : decode bb_V_newHeader 8 = .ok (.sipush 255, 3) := by decide +kernel
theorem dc_V_newHeader_11 : decode bb_V_newHeader 11 = .ok (.if_icmp .gt 7, 3) := by decide +kernel
theorem dc_V_newHeader_14 : decode bb_V_newHeader 14 = .ok (.iconst 1, 1) := by decide +kernel
theorem dc_V_newHeader_15 : decode bb_V_newHeader 15 = .ok (.goto 4, 3) := by decide +kernel
theorem dc_V_newHeader_18 : decode bb_V_newHeader 18 = .ok (.iconst 0, 1) := by decide +kernel
theorem dc_V_newHeader_19 : decode bb_V_newHeader 19 = .ok (.istore_n 2, 1) := by decide +kernel
theorem dc_V_newHeader_20 : decode bb_V_newHeader 20 = .ok (.aload_n 0, 1) := by decide +kernel
theorem dc_V_newHeader_21 : decode bb_V_newHeader 21 = .ok (.getfield 15, 3) := by decide +kernel
theorem dc_V_newHeader_24 : decode bb_V_newHeader 24 = .ok (.iload_n 1, 1) := by decide +kernel
theorem dc_V_newHeader_25 : decode bb_V_newHeader 25 = .ok (.iconst 3, 1) := by decide +kernel
theorem dc_V_newHeader_26 : decode bb_V_newHeader 26 = .ok (.invokevirtual 52, 3) := by decide +kernel
theorem dc_V_newHeader_29 : decode bb_V_newHeader 29 = .ok (.iconst 2, 1) := by decide +kernel
theorem dc_V_newHeader_30 : decode bb_V_newHeader 30 = .ok (.if_icmp .ne 7, 3) := by decide +kernel
theorem dc_V_newHeader_33 : decode bb_V_newHeader 33 = .ok (.iconst 1, 1) := by decide +kernel
theorem dc_V_newHeader_34 : decode bb_V_newHeader 34 = .ok (.goto 4, 3) := by decide +kernel
theorem dc_V_newHeader_37 : decode bb_V_newHeader 37 = .ok (.iconst 0, 1) := by decide +kernel
theorem dc_V_newHeader_38 : decode bb_V_newHeader 38 = .ok (.istore_n 3, 1) := by decide +kernel
theorem dc_V_newHeader_39 : decode bb_V_newHeader 39 = .ok (.iload_n 3, 1) := by decide +kernel
theorem dc_V_newHeader_40 : decode bb_V_newHeader 40 = .ok (.ifCond .eq 11, 3) := by decide +kernel
theorem dc_V_newHeader_43 : decode bb_V_newHeader 43 = .ok (.iload_n 2, 1) := by decide +kernel
theorem dc_V_newHeader_44 : decode bb_V_newHeader 44 = .ok (.ifCond .eq 7, 3) := by decide +kernel
theorem dc_V_newHeader_47 : decode bb_V_newHeader 47 = .ok (.iconst 2, 1) := by decide +kernel
theorem dc_V_newHeader_48 : decode bb_V_newHeader 48 = .ok (.goto 4, 3) := by decide +kernel
theorem dc_V_newHeader_51 : decode bb_V_newHeader 51 = .ok (.iconst 4, 1) := by decide +kernel
theorem dc_V_newHeader_52 : decode bb_V_newHeader 52 = .ok (.ireturn, 1) := by decide +kernel
theorem dc_V_newSize_0 : decode bb_V_newSize 0 = .ok (.aload_n 0, 1) := by decide +kernel
theorem dc_V_newSize_1 : decode bb_V_newSize 1 = .ok (.getfield 29, 3) := by decide +kernel
theorem dc_V_newSize_4 : decode bb_V_newSize 4 = .ok (.iload_n 1, 1) := by decide +kernel
theorem dc_V_newSize_5 : decode bb_V_newSize 5 = .ok (.iaload, 1) := by decide +kernel
theorem dc_V_newSize_6 : decode bb_V_newSize 6 = .ok (.aload_n 0, 1) := by decide +kernel
theorem dc_V_newSize_7 : decode bb_V_newSize 7 = .ok (.getfield 33, 3) := by decide +kernel
theorem dc_V_newSize_10 : decode bb_V_newSize 10 = .ok (.iload_n 1, 1) := by decide +kernel
theorem dc_V_newSize_11 : decode bb_V_newSize 11 = .ok (.iaload, 1) := by decide +kernel
theorem dc_V_newSize_12 : decode bb_V_newSize 12 = .ok (.iadd, 1) := by decide +kernel
theorem dc_V_newSize_13 : decode bb_V_newSize 13 = .ok (.ireturn, 1) := by decide +kernel
theorem dc_V_widenSome_0 : decode bb_V_widenSome 0 = .ok (.iconst 0, 1) := by decide +kernel
theorem dc_V_widenSome_1 : decode bb_V_widenSome 1 = .ok (.istore_n 1, 1) := by decide +kernel
theorem dc_V_widenSome_2 : decode bb_V_widenSome 2 = .ok (.aload_n 0, 1) := by decide +kernel
theorem dc_V_widenSome_3 : decode bb_V_widenSome 3 = .ok (.getfield 36, 3) := by decide +kernel
theorem dc_V_widenSome_6 : decode bb_V_widenSome 6 = .ok (.istore_n 2, 1) := by decide +kernel
theorem dc_V_widenSome_7 : decode bb_V_widenSome 7 = .ok (.iload_n 2, 1) := by decide +kernel
theorem dc_V_widenSome_8 : decode bb_V_widenSome 8 = .ok (.aload_n 0, 1) := by decide +kernel
theorem dc_V_widenSome_9 : decode bb_V_widenSome 9 = .ok (.getfield 40, 3) := by decide +kernel
theorem dc_V_widenSome_12 : decode bb_V_widenSome 12 = .ok (.if_icmp .ge 50, 3) := by decide +kernel
theorem dc_V_widenSome_15 : decode bb_V_widenSome 15 = .ok (.aload_n 0, 1) := by decide +kernel
theorem dc_V_widenSome_16 : decode bb_V_widenSome 16 = .ok (.getfield 15, 3) := by decide +kernel
theorem dc_V_widenSome_19 : decode bb_V_widenSome 19 = .ok (.iload_n 2, 1) := by decide +kernel
theorem dc_V_widenSome_20 : decode bb_V_widenSome 20 = .ok (.bipush 6, 2) := by decide +kernel
theorem dc_V_widenSome_22 : decode bb_V_widenSome 22 = .ok (.invokevirtual 52, 3) := by decide +kernel
theorem dc_V_widenSome_25 : decode bb_V_widenSome 25 = .ok (.bipush 111, 2) := by decide +kernel
theorem dc_V_widenSome_27 : decode bb_V_widenSome 27 = .ok (.if_icmp .ne 29, 3) := by decide +kernel
theorem dc_V_widenSome_30 : decode bb_V_widenSome 30 = .ok (.aload_n 0, 1) := by decide +kernel
theorem dc_V_widenSome_31 : decode bb_V_widenSome 31 = .ok (.getfield 25, 3) := by decide +kernel
theorem dc_V_widenSome_34 : decode bb_V_widenSome 34 = .ok (.iload_n 2, 1) := by decide +kernel
theorem dc_V_widenSome_35 : decode bb_V_widenSome 35 = .ok (.baload, 1) := by decide +kernel
theorem dc_V_widenSome_36 : decode bb_V_widenSome 36 = .ok (.ifCond .ne 20, 3) := by decide +kernel
theorem dc_V_widenSome_39 : decode bb_V_widenSome 39 = .ok (.aload_n 0, 1) := by decide +kernel
theorem dc_V_widenSome_40 : decode bb_V_widenSome 40 = .ok (.iload_n 2, 1) := by decide +kernel
theorem dc_V_widenSome_41 : decode bb_V_widenSome 41 = .ok (.invokevirtual 111, 3) := by decide +kernel
theorem dc_V_widenSome_44 : decode bb_V_widenSome 44 = .ok (.ifCond .eq 12, 3) := by decide +kernel
theorem dc_V_widenSome_47 : decode bb_V_widenSome 47 = .ok (.aload_n 0, 1) := by decide +kernel
theorem dc_V_widenSome_48 : decode bb_V_widenSome 48 = .ok (.getfield 25, 3) := by decide +kernel
theorem dc_V_widenSome_51 : decode bb_V_widenSome 51 = .ok (.iload_n 2, 1) := by decide +kernel
theorem dc_V_widenSome_52 : decode bb_V_widenSome 52 = .ok (.iconst 1, 1) := by decide +kernel
theorem dc_V_widenSome_53 : decode bb_V_widenSome 53 = .ok (.bastore, 1) := by decide +kernel
theorem dc_V_widenSome_54 : decode bb_V_widenSome 54 = .ok (.iconst 1, 1) := by decide +kernel
theorem dc_V_widenSome_55 : decode bb_V_widenSome 55 = .ok (.istore_n 1, 1) := by decide +kernel
theorem dc_V_widenSome_56 : decode bb_V_widenSome 56 = .ok (.iinc 2 1, 3) := by decide +kernel
theorem dc_V_widenSome_59 : decode bb_V_widenSome 59 = .ok (.goto (-52), 3) := by decide +kernel
theorem dc_V_widenSome_62 : decode bb_V_widenSome 62 = .ok (.iload_n 1, 1) := by decide +kernel
theorem dc_V_widenSome_63 : decode bb_V_widenSome 63 = .ok (.ireturn, 1) := by decide +kernel
theorem dc_V_outgrowsBytes_0 : decode bb_V_outgrowsBytes 0 = .ok (.iconst 0, 1) := by decide +kernel
theorem dc_V_outgrowsBytes_1 : decode bb_V_outgrowsBytes 1 = .ok (.istore_n 2, 1) := by decide +kernel
theorem dc_V_outgrowsBytes_2 : decode bb_V_outgrowsBytes 2 = .ok (.iload_n 2, 1) := by decide +kernel
theorem dc_V_outgrowsBytes_3 : decode bb_V_outgrowsBytes 3 = .ok (.aload_n 0, 1) := by decide +kernel
theorem dc_V_outgrowsBytes_4 : decode bb_V_outgrowsBytes 4 = .ok (.iload_n 1, 1) := by decide +kernel
theorem dc_V_outgrowsBytes_5 : decode bb_V_outgrowsBytes 5 = .ok (.invokevirtual 102, 3) := by decide +kernel
theorem dc_V_outgrowsBytes_8 : decode bb_V_outgrowsBytes 8 = .ok (.if_icmp .ge 27, 3) := by decide +kernel
theorem dc_V_outgrowsBytes_11 : decode bb_V_outgrowsBytes 11 = .ok (.aload_n 0, 1) := by decide +kernel
theorem dc_V_outgrowsBytes_12 : decode bb_V_outgrowsBytes 12 = .ok (.aload_n 0, 1) := by decide +kernel
theorem dc_V_outgrowsBytes_13 : decode bb_V_outgrowsBytes 13 = .ok (.iload_n 1, 1) := by decide +kernel
theorem dc_V_outgrowsBytes_14 : decode bb_V_outgrowsBytes 14 = .ok (.iload_n 2, 1) := by decide +kernel
theorem dc_V_outgrowsBytes_15 : decode bb_V_outgrowsBytes 15 = .ok (.invokevirtual 114, 3) := by decide +kernel
theorem dc_V_outgrowsBytes_18 : decode bb_V_outgrowsBytes 18 = .ok (.invokevirtual 117, 3) := by decide +kernel
theorem dc_V_outgrowsBytes_21 : decode bb_V_outgrowsBytes 21 = .ok (.sipush 255, 3) := by decide +kernel
theorem dc_V_outgrowsBytes_24 : decode bb_V_outgrowsBytes 24 = .ok (.if_icmp .le 5, 3) := by decide +kernel
theorem dc_V_outgrowsBytes_27 : decode bb_V_outgrowsBytes 27 = .ok (.iconst 1, 1) := by decide +kernel
theorem dc_V_outgrowsBytes_28 : decode bb_V_outgrowsBytes 28 = .ok (.ireturn, 1) := by decide +kernel
theorem dc_V_outgrowsBytes_29 : decode bb_V_outgrowsBytes 29 = .ok (.iinc 2 1, 3) := by decide +kernel
theorem dc_V_outgrowsBytes_32 : decode bb_V_outgrowsBytes 32 = .ok (.goto (-30), 3) := by decide +kernel
theorem dc_V_outgrowsBytes_35 : decode bb_V_outgrowsBytes 35 = .ok (.iconst 0, 1) := by decide +kernel
theorem dc_V_outgrowsBytes_36 : decode bb_V_outgrowsBytes 36 = .ok (.ireturn, 1) := by decide +kernel
theorem dc_V_oldPlace_0 : decode bb_V_oldPlace 0 = .ok (.aload_n 0, 1) := by decide +kernel
theorem dc_V_oldPlace_1 : decode bb_V_oldPlace 1 = .ok (.getfield 15, 3) := by decide +kernel
theorem dc_V_oldPlace_4 : decode bb_V_oldPlace 4 = .ok (.iload_n 1, 1) := by decide +kernel
theorem dc_V_oldPlace_5 : decode bb_V_oldPlace 5 = .ok (.invokevirtual 105, 3) := by decide +kernel
theorem dc_V_oldPlace_8 : decode bb_V_oldPlace 8 = .ok (.iconst 1, 1) := by decide +kernel
theorem dc_V_oldPlace_9 : decode bb_V_oldPlace 9 = .ok (.iadd, 1) := by decide +kernel
theorem dc_V_oldPlace_10 : decode bb_V_oldPlace 10 = .ok (.istore_n 3, 1) := by decide +kernel
theorem dc_V_oldPlace_11 : decode bb_V_oldPlace 11 = .ok (.aload_n 0, 1) := by decide +kernel
theorem dc_V_oldPlace_12 : decode bb_V_oldPlace 12 = .ok (.getfield 15, 3) := by decide +kernel
theorem dc_V_oldPlace_15 : decode bb_V_oldPlace 15 = .ok (.iload_n 1, 1) := by decide +kernel
theorem dc_V_oldPlace_16 : decode bb_V_oldPlace 16 = .ok (.bipush 6, 2) := by decide +kernel
theorem dc_V_oldPlace_18 : decode bb_V_oldPlace 18 = .ok (.invokevirtual 52, 3) := by decide +kernel
theorem dc_V_oldPlace_21 : decode bb_V_oldPlace 21 = .ok (.bipush 79, 2) := by decide +kernel
theorem dc_V_oldPlace_23 : decode bb_V_oldPlace 23 = .ok (.if_icmp .ne 7, 3) := by decide +kernel
theorem dc_V_oldPlace_26 : decode bb_V_oldPlace 26 = .ok (.iconst 1, 1) := by decide +kernel
theorem dc_V_oldPlace_27 : decode bb_V_oldPlace 27 = .ok (.goto 4, 3) := by decide +kernel
theorem dc_V_oldPlace_30 : decode bb_V_oldPlace 30 = .ok (.iconst 0, 1) := by decide +kernel
theorem dc_V_oldPlace_31 : decode bb_V_oldPlace 31 = .ok (.istore 4, 2) := by decide +kernel
theorem dc_V_oldPlace_33 : decode bb_V_oldPlace 33 = .ok (.iload 4, 2) := by decide +kernel
theorem dc_V_oldPlace_35 : decode bb_V_oldPlace 35 = .ok (.ifCond .eq 18, 3) := by decide +kernel
theorem dc_V_oldPlace_38 : decode bb_V_oldPlace 38 = .ok (.aload_n 0, 1) := by decide +kernel
theorem dc_V_oldPlace_39 : decode bb_V_oldPlace 39 = .ok (.getfield 9, 3) := by decide +kernel
theorem dc_V_oldPlace_42 : decode bb_V_oldPlace 42 = .ok (.iload_n 3, 1) := by decide +kernel
theorem dc_V_oldPlace_43 : decode bb_V_oldPlace 43 = .ok (.iconst 2, 1) := by decide +kernel
theorem dc_V_oldPlace_44 : decode bb_V_oldPlace 44 = .ok (.iload_n 2, 1) := by decide +kernel
theorem dc_V_oldPlace_45 : decode bb_V_oldPlace 45 = .ok (.imul, 1) := by decide +kernel
theorem dc_V_oldPlace_46 : decode bb_V_oldPlace 46 = .ok (.iadd, 1) := by decide +kernel
theorem dc_V_oldPlace_47 : decode bb_V_oldPlace 47 = .ok (.invokevirtual 120, 3) := by decide +kernel
theorem dc_V_oldPlace_50 : decode bb_V_oldPlace 50 = .ok (.goto 13, 3) := by decide +kernel
theorem dc_V_oldPlace_53 : decode bb_V_oldPlace 53 = .ok (.aload_n 0, 1) := by decide +kernel
theorem dc_V_oldPlace_54 : decode bb_V_oldPlace 54 = .ok (.getfield 9, 3) := by decide +kernel
theorem dc_V_oldPlace_57 : decode bb_V_oldPlace 57 = .ok (.iload_n 3, 1) := by decide +kernel
theorem dc_V_oldPlace_58 : decode bb_V_oldPlace 58 = .ok (.iload_n 2, 1) := by decide +kernel
theorem dc_V_oldPlace_59 : decode bb_V_oldPlace 59 = .ok (.iadd, 1) := by decide +kernel
theorem dc_V_oldPlace_60 : decode bb_V_oldPlace 60 = .ok (.invokevirtual 108, 3) := by decide +kernel
theorem dc_V_oldPlace_63 : decode bb_V_oldPlace 63 = .ok (.ireturn, 1) := by decide +kernel
theorem dc_V_newPlace_0 : decode bb_V_newPlace 0 = .ok (.aload_n 0, 1) := by decide +kernel
theorem dc_V_newPlace_1 : decode bb_V_newPlace 1 = .ok (.getfield 15, 3) := by decide +kernel
theorem dc_V_newPlace_4 : decode bb_V_newPlace 4 = .ok (.iload_n 1, 1) := by decide +kernel
theorem dc_V_newPlace_5 : decode bb_V_newPlace 5 = .ok (.invokevirtual 123, 3) := by decide +kernel
theorem dc_V_newPlace_8 : decode bb_V_newPlace 8 = .ok (.aload_n 0, 1) := by decide +kernel
theorem dc_V_newPlace_9 : decode bb_V_newPlace 9 = .ok (.getfield 36, 3) := by decide +kernel
theorem dc_V_newPlace_12 : decode bb_V_newPlace 12 = .ok (.if_icmp .ge 7, 3) := by decide +kernel
theorem dc_V_newPlace_15 : decode bb_V_newPlace 15 = .ok (.iconst 1, 1) := by decide +kernel
theorem dc_V_newPlace_16 : decode bb_V_newPlace 16 = .ok (.goto 4, 3) := by decide +kernel
theorem dc_V_newPlace_19 : decode bb_V_newPlace 19 = .ok (.iconst 0, 1) := by decide +kernel
theorem dc_V_newPlace_20 : decode bb_V_newPlace 20 = .ok (.istore_n 2, 1) := by decide +kernel
theorem dc_V_newPlace_21 : decode bb_V_newPlace 21 = .ok (.iload_n 2, 1) := by decide +kernel
theorem dc_V_newPlace_22 : decode bb_V_newPlace 22 = .ok (.ifCond .eq 7, 3) := by decide +kernel
theorem dc_V_newPlace_25 : decode bb_V_newPlace 25 = .ok (.iconst 0, 1) := by decide +kernel
theorem dc_V_newPlace_26 : decode bb_V_newPlace 26 = .ok (.goto 15, 3) := by decide +kernel
theorem dc_V_newPlace_29 : decode bb_V_newPlace 29 = .ok (.aload_n 0, 1) := by decide +kernel
theorem dc_V_newPlace_30 : decode bb_V_newPlace 30 = .ok (.getfield 15, 3) := by decide +kernel
theorem dc_V_newPlace_33 : decode bb_V_newPlace 33 = .ok (.aload_n 0, 1) := by decide +kernel
theorem dc_V_newPlace_34 : decode bb_V_newPlace 34 = .ok (.getfield 36, 3) := by decide +kernel
theorem dc_V_newPlace_37 : decode bb_V_newPlace 37 = .ok (.iconst 1, 1) := by decide +kernel
theorem dc_V_newPlace_38 : decode bb_V_newPlace 38 = .ok (.invokevirtual 52, 3) := by decide +kernel
theorem dc_V_newPlace_41 : decode bb_V_newPlace 41 = .ok (.istore_n 3, 1) := by decide +kernel
theorem dc_V_newPlace_42 : decode bb_V_newPlace 42 = .ok (.iload_n 1, 1) := by decide +kernel
theorem dc_V_newPlace_43 : decode bb_V_newPlace 43 = .ok (.aload_n 0, 1) := by decide +kernel
theorem dc_V_newPlace_44 : decode bb_V_newPlace 44 = .ok (.aload_n 0, 1) := by decide +kernel
theorem dc_V_newPlace_45 : decode bb_V_newPlace 45 = .ok (.getfield 36, 3) := by decide +kernel
theorem dc_V_newPlace_48 : decode bb_V_newPlace 48 = .ok (.invokevirtual 59, 3) := by decide +kernel
theorem dc_V_newPlace_51 : decode bb_V_newPlace 51 = .ok (.iadd, 1) := by decide +kernel
theorem dc_V_newPlace_52 : decode bb_V_newPlace 52 = .ok (.iload_n 3, 1) := by decide +kernel
theorem dc_V_newPlace_53 : decode bb_V_newPlace 53 = .ok (.isub, 1) := by decide +kernel
theorem dc_V_newPlace_54 : decode bb_V_newPlace 54 = .ok (.ireturn, 1) := by decide +kernel
theorem dc_B_addPart_0 : decode bb_B_addPart 0 = .ok (.iload_n 2, 1) := by decide +kernel
theorem dc_B_addPart_1 : decode bb_B_addPart 1 = .ok (.istore 4, 2) := by decide +kernel
theorem dc_B_addPart_3 : decode bb_B_addPart 3 = .ok (.iload 4, 2) := by decide +kernel
theorem dc_B_addPart_5 : decode bb_B_addPart 5 = .ok (.iload_n 3, 1) := by decide +kernel
theorem dc_B_addPart_6 : decode bb_B_addPart 6 = .ok (.if_icmp .ge 19, 3) := by decide +kernel
theorem dc_B_addPart_9 : decode bb_B_addPart 9 = .ok (.aload_n 0, 1) := by decide +kernel
theorem dc_B_addPart_10 : decode bb_B_addPart 10 = .ok (.aload_n 1, 1) := by decide +kernel
theorem dc_B_addPart_11 : decode bb_B_addPart 11 = .ok (.iload 4, 2) := by decide +kernel
theorem dc_B_addPart_13 : decode bb_B_addPart 13 = .ok (.invokevirtual 27, 3) := by decide +kernel
theorem dc_B_addPart_16 : decode bb_B_addPart 16 = .ok (.invokevirtual 23, 3) := by decide +kernel
theorem dc_B_addPart_19 : decode bb_B_addPart 19 = .ok (.iinc 4 1, 3) := by decide +kernel
theorem dc_B_addPart_22 : decode bb_B_addPart 22 = .ok (.goto (-19), 3) := by decide +kernel
theorem dc_B_addPart_25 : decode bb_B_addPart 25 = .ok (.return_, 1) := by decide +kernel
theorem dc_V_writeBox_0 : decode bb_V_writeBox 0 = .ok (.aload_n 0, 1) := by decide +kernel
theorem dc_V_writeBox_1 : decode bb_V_writeBox 1 = .ok (.iload_n 1, 1) := by decide +kernel
theorem dc_V_writeBox_2 : decode bb_V_writeBox 2 = .ok (.invokevirtual 126, 3) := by decide +kernel
theorem dc_V_writeBox_5 : decode bb_V_writeBox 5 = .ok (.aload_n 0, 1) := by decide +kernel
theorem dc_V_writeBox_6 : decode bb_V_writeBox 6 = .ok (.getfield 15, 3) := by decide +kernel
theorem dc_V_writeBox_9 : decode bb_V_writeBox 9 = .ok (.iload_n 1, 1) := by decide +kernel
theorem dc_V_writeBox_10 : decode bb_V_writeBox 10 = .ok (.bipush 6, 2) := by decide +kernel
theorem dc_V_writeBox_12 : decode bb_V_writeBox 12 = .ok (.invokevirtual 52, 3) := by decide +kernel
theorem dc_V_writeBox_15 : decode bb_V_writeBox 15 = .ok (.istore_n 2, 1) := by decide +kernel
theorem dc_V_writeBox_16 : decode bb_V_writeBox 16 = .ok (.iload_n 2, 1) := by decide +kernel
theorem dc_V_writeBox_17 : decode bb_V_writeBox 17 = .ok (.bipush 111, 2) := by decide +kernel
theorem dc_V_writeBox_19 : decode bb_V_writeBox 19 = .ok (.if_icmp .eq 9, 3) := by decide +kernel
theorem dc_V_writeBox_22 : decode bb_V_writeBox 22 = .ok (.iload_n 2, 1) := by decide +kernel
theorem dc_V_writeBox_23 : decode bb_V_writeBox 23 = .ok (.bipush 79, 2) := by decide +kernel
theorem dc_V_writeBox_25 : decode bb_V_writeBox 25 = .ok (.if_icmp .ne 11, 3) := by decide +kernel
theorem dc_V_writeBox_28 : decode bb_V_writeBox 28 = .ok (.aload_n 0, 1) := by decide +kernel
theorem dc_V_writeBox_29 : decode bb_V_writeBox 29 = .ok (.iload_n 1, 1) := by decide +kernel
theorem dc_V_writeBox_30 : decode bb_V_writeBox 30 = .ok (.invokevirtual 129, 3) := by decide +kernel
theorem dc_V_writeBox_33 : decode bb_V_writeBox 33 = .ok (.goto 41, 3) := by decide +kernel
theorem dc_V_writeBox_36 : decode bb_V_writeBox 36 = .ok (.aload_n 0, 1) := by decide +kernel
theorem dc_V_writeBox_37 : decode bb_V_writeBox 37 = .ok (.getfield 15, 3) := by decide +kernel
theorem dc_V_writeBox_40 : decode bb_V_writeBox 40 = .ok (.iload_n 1, 1) := by decide +kernel
theorem dc_V_writeBox_41 : decode bb_V_writeBox 41 = .ok (.invokevirtual 95, 3) := by decide +kernel
theorem dc_V_writeBox_44 : decode bb_V_writeBox 44 = .ok (.ifCond .ne 30, 3) := by decide +kernel
theorem dc_V_writeBox_47 : decode bb_V_writeBox 47 = .ok (.aload_n 0, 1) := by decide +kernel
theorem dc_V_writeBox_48 : decode bb_V_writeBox 48 = .ok (.getfield 22, 3) := by decide +kernel
theorem dc_V_writeBox_51 : decode bb_V_writeBox 51 = .ok (.aload_n 0, 1) := by decide +kernel
theorem dc_V_writeBox_52 : decode bb_V_writeBox 52 = .ok (.getfield 9, 3) := by decide +kernel
theorem dc_V_writeBox_55 : decode bb_V_writeBox 55 = .ok (.aload_n 0, 1) := by decide +kernel
theorem dc_V_writeBox_56 : decode bb_V_writeBox 56 = .ok (.getfield 15, 3) := by decide +kernel
theorem dc_V_writeBox_59 : decode bb_V_writeBox 59 = .ok (.iload_n 1, 1) := by decide +kernel
theorem dc_V_writeBox_60 : decode bb_V_writeBox 60 = .ok (.invokevirtual 105, 3) := by decide +kernel
theorem dc_V_writeBox_63 : decode bb_V_writeBox 63 = .ok (.aload_n 0, 1) := by decide +kernel
theorem dc_V_writeBox_64 : decode bb_V_writeBox 64 = .ok (.getfield 15, 3) := by decide +kernel
theorem dc_V_writeBox_67 : decode bb_V_writeBox 67 = .ok (.iload_n 1, 1) := by decide +kernel
theorem dc_V_writeBox_68 : decode bb_V_writeBox 68 = .ok (.invokevirtual 74, 3) := by decide +kernel
theorem dc_V_writeBox_71 : decode bb_V_writeBox 71 = .ok (.invokevirtual 67, 3) := by decide +kernel
theorem dc_V_writeBox_74 : decode bb_V_writeBox 74 = .ok (.return_, 1) := by decide +kernel
theorem dc_V_writeHeader_0 : decode bb_V_writeHeader 0 = .ok (.aload_n 0, 1) := by decide +kernel
theorem dc_V_writeHeader_1 : decode bb_V_writeHeader 1 = .ok (.getfield 25, 3) := by decide +kernel
theorem dc_V_writeHeader_4 : decode bb_V_writeHeader 4 = .ok (.iload_n 1, 1) := by decide +kernel
theorem dc_V_writeHeader_5 : decode bb_V_writeHeader 5 = .ok (.baload, 1) := by decide +kernel
theorem dc_V_writeHeader_6 : decode bb_V_writeHeader 6 = .ok (.ifCond .eq 8, 3) := by decide +kernel
theorem dc_V_writeHeader_9 : decode bb_V_writeHeader 9 = .ok (.bipush 79, 2) := by decide +kernel
theorem dc_V_writeHeader_11 : decode bb_V_writeHeader 11 = .ok (.goto 12, 3) := by decide +kernel
theorem dc_V_writeHeader_14 : decode bb_V_writeHeader 14 = .ok (.aload_n 0, 1) := by decide +kernel
theorem dc_V_writeHeader_15 : decode bb_V_writeHeader 15 = .ok (.getfield 15, 3) := by decide +kernel
theorem dc_V_writeHeader_18 : decode bb_V_writeHeader 18 = .ok (.iload_n 1, 1) := by decide +kernel
theorem dc_V_writeHeader_19 : decode bb_V_writeHeader 19 = .ok (.iconst 2, 1) := by decide +kernel
theorem dc_V_writeHeader_20 : decode bb_V_writeHeader 20 = .ok (.invokevirtual 52, 3) := by decide +kernel
theorem dc_V_writeHeader_23 : decode bb_V_writeHeader 23 = .ok (.istore_n 2, 1) := by decide +kernel
theorem dc_V_writeHeader_24 : decode bb_V_writeHeader 24 = .ok (.aload_n 0, 1) := by decide +kernel
theorem dc_V_writeHeader_25 : decode bb_V_writeHeader 25 = .ok (.getfield 33, 3) := by decide +kernel
theorem dc_V_writeHeader_28 : decode bb_V_writeHeader 28 = .ok (.iload_n 1, 1) := by decide +kernel
theorem dc_V_writeHeader_29 : decode bb_V_writeHeader 29 = .ok (.iaload, 1) := by decide +kernel
theorem dc_V_writeHeader_30 : decode bb_V_writeHeader 30 = .ok (.iconst 4, 1) := by decide +kernel
theorem dc_V_writeHeader_31 : decode bb_V_writeHeader 31 = .ok (.if_icmp .ne 7, 3) := by decide +kernel
theorem dc_V_writeHeader_34 : decode bb_V_writeHeader 34 = .ok (.iconst 1, 1) := by decide +kernel
theorem dc_V_writeHeader_35 : decode bb_V_writeHeader 35 = .ok (.goto 4, 3) := by decide +kernel
theorem dc_V_writeHeader_38 : decode bb_V_writeHeader 38 = .ok (.iconst 0, 1) := by decide +kernel
theorem dc_V_writeHeader_39 : decode bb_V_writeHeader 39 = .ok (.istore_n 3, 1) := by decide +kernel
theorem dc_V_writeHeader_40 : decode bb_V_writeHeader 40 = .ok (.aload_n 0, 1) := by decide +kernel
theorem dc_V_writeHeader_41 : decode bb_V_writeHeader 41 = .ok (.getfield 22, 3) := by decide +kernel
theorem dc_V_writeHeader_44 : decode bb_V_writeHeader 44 = .ok (.iload_n 3, 1) := by decide +kernel
theorem dc_V_writeHeader_45 : decode bb_V_writeHeader 45 = .ok (.ifCond .eq 7, 3) := by decide +kernel
theorem dc_V_writeHeader_48 : decode bb_V_writeHeader 48 = .ok (.iconst 1, 1) := by decide +kernel
theorem dc_V_writeHeader_49 : decode bb_V_writeHeader 49 = .ok (.goto 8, 3) := by decide +kernel
theorem dc_V_writeHeader_52 : decode bb_V_writeHeader 52 = .ok (.aload_n 0, 1) := by decide +kernel
theorem dc_V_writeHeader_53 : decode bb_V_writeHeader 53 = .ok (.iload_n 1, 1) := by decide +kernel
theorem dc_V_writeHeader_54 : decode bb_V_writeHeader 54 = .ok (.invokevirtual 59, 3) := by decide +kernel
theorem dc_V_writeHeader_57 : decode bb_V_writeHeader 57 = .ok (.invokevirtual 132, 3) := by decide +kernel
theorem dc_V_writeHeader_60 : decode bb_V_writeHeader 60 = .ok (.aload_n 0, 1) := by decide +kernel
theorem dc_V_writeHeader_61 : decode bb_V_writeHeader 61 = .ok (.getfield 22, 3) := by decide +kernel
theorem dc_V_writeHeader_64 : decode bb_V_writeHeader 64 = .ok (.iload_n 2, 1) := by decide +kernel
theorem dc_V_writeHeader_65 : decode bb_V_writeHeader 65 = .ok (.invokevirtual 132, 3) := by decide +kernel
theorem dc_V_writeHeader_68 : decode bb_V_writeHeader 68 = .ok (.iload_n 3, 1) := by decide +kernel
theorem dc_V_writeHeader_69 : decode bb_V_writeHeader 69 = .ok (.ifCond .eq 15, 3) := by decide +kernel
theorem dc_V_writeHeader_72 : decode bb_V_writeHeader 72 = .ok (.aload_n 0, 1) := by decide +kernel
theorem dc_V_writeHeader_73 : decode bb_V_writeHeader 73 = .ok (.getfield 22, 3) := by decide +kernel
theorem dc_V_writeHeader_76 : decode bb_V_writeHeader 76 = .ok (.aload_n 0, 1) := by decide +kernel
theorem dc_V_writeHeader_77 : decode bb_V_writeHeader 77 = .ok (.iload_n 1, 1) := by decide +kernel
theorem dc_V_writeHeader_78 : decode bb_V_writeHeader 78 = .ok (.invokevirtual 59, 3) := by decide +kernel
theorem dc_V_writeHeader_81 : decode bb_V_writeHeader 81 = .ok (.invokevirtual 135, 3) := by decide +kernel
theorem dc_V_writeHeader_84 : decode bb_V_writeHeader 84 = .ok (.return_, 1) := by decide +kernel
