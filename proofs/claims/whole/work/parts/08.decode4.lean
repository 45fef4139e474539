theorem dc_R_boxes_0 : decode bb_R_boxes 0 = .ok (.aload_n 0, 1) := by decide +kernel
theorem dc_R_boxes_1 : decode bb_R_boxes 1 = .ok (.invokevirtual 75, 3) := by decide +kernel
theorem dc_R_boxes_4 : decode bb_R_boxes 4 = .ok (.istore_n 1, 1) := by decide +kernel
theorem dc_R_boxes_5 : decode bb_R_boxes 5 = .ok (.iload_n 1, 1) := by decide +kernel
theorem dc_R_boxes_6 : decode bb_R_boxes 6 = .ok (.ifCond .le 9, 3) := by decide +kernel
theorem dc_R_boxes_9 : decode bb_R_boxes 9 = .ok (.sipush (-1000), 3) := by decide +kernel
theorem dc_R_boxes_12 : decode bb_R_boxes 12 = .ok (.goto 7, 3) := by decide +kernel
theorem dc_R_boxes_15 : decode bb_R_boxes 15 = .ok (.aload_n 0, 1) := by decide +kernel
theorem dc_R_boxes_16 : decode bb_R_boxes 16 = .ok (.getfield 64, 3) := by decide +kernel
theorem dc_R_boxes_19 : decode bb_R_boxes 19 = .ok (.ireturn, 1) := by decide +kernel
theorem dc_R_box_0 : decode bb_R_box 0 = .ok (.aload_n 0, 1) := by decide +kernel
theorem dc_R_box_1 : decode bb_R_box 1 = .ok (.invokevirtual 75, 3) := by decide +kernel
theorem dc_R_box_4 : decode bb_R_box 4 = .ok (.istore_n 3, 1) := by decide +kernel
theorem dc_R_box_5 : decode bb_R_box 5 = .ok (.iload_n 3, 1) := by decide +kernel
theorem dc_R_box_6 : decode bb_R_box 6 = .ok (.ifCond .gt 15, 3) := by decide +kernel
theorem dc_R_box_9 : decode bb_R_box 9 = .ok (.iload_n 1, 1) := by decide +kernel
theorem dc_R_box_10 : decode bb_R_box 10 = .ok (.ifCond .lt 11, 3) := by decide +kernel
theorem dc_R_box_13 : decode bb_R_box 13 = .ok (.iload_n 1, 1) := by decide +kernel
theorem dc_R_box_14 : decode bb_R_box 14 = .ok (.aload_n 0, 1) := by decide +kernel
theorem dc_R_box_15 : decode bb_R_box 15 = .ok (.getfield 64, 3) := by decide +kernel
theorem dc_R_box_18 : decode bb_R_box 18 = .ok (.if_icmp .lt 7, 3) := by decide +kernel
theorem dc_R_box_21 : decode bb_R_box 21 = .ok (.sipush (-1000), 3) := by decide +kernel
theorem dc_R_box_24 : decode bb_R_box 24 = .ok (.ireturn, 1) := by decide +kernel
theorem dc_R_box_25 : decode bb_R_box 25 = .ok (.iload_n 2, 1) := by decide +kernel
theorem dc_R_box_26 : decode bb_R_box 26 = .ok (.tableswitch 80 0 5 #[38, 45, 52, 59, 66, 73], 38) := by decide +kernel
theorem dc_R_box_64 : decode bb_R_box 64 = .ok (.aload_n 0, 1) := by decide +kernel
theorem dc_R_box_65 : decode bb_R_box 65 = .ok (.getfield 13, 3) := by decide +kernel
theorem dc_R_box_68 : decode bb_R_box 68 = .ok (.iload_n 1, 1) := by decide +kernel
theorem dc_R_box_69 : decode bb_R_box 69 = .ok (.iaload, 1) := by decide +kernel
theorem dc_R_box_70 : decode bb_R_box 70 = .ok (.ireturn, 1) := by decide +kernel
theorem dc_R_box_71 : decode bb_R_box 71 = .ok (.aload_n 0, 1) := by decide +kernel
theorem dc_R_box_72 : decode bb_R_box 72 = .ok (.getfield 16, 3) := by decide +kernel
theorem dc_R_box_75 : decode bb_R_box 75 = .ok (.iload_n 1, 1) := by decide +kernel
theorem dc_R_box_76 : decode bb_R_box 76 = .ok (.iaload, 1) := by decide +kernel
theorem dc_R_box_77 : decode bb_R_box 77 = .ok (.ireturn, 1) := by decide +kernel
theorem dc_R_box_78 : decode bb_R_box 78 = .ok (.aload_n 0, 1) := by decide +kernel
theorem dc_R_box_79 : decode bb_R_box 79 = .ok (.getfield 19, 3) := by decide +kernel
theorem dc_R_box_82 : decode bb_R_box 82 = .ok (.iload_n 1, 1) := by decide +kernel
theorem dc_R_box_83 : decode bb_R_box 83 = .ok (.iaload, 1) := by decide +kernel
theorem dc_R_box_84 : decode bb_R_box 84 = .ok (.ireturn, 1) := by decide +kernel
theorem dc_R_box_85 : decode bb_R_box 85 = .ok (.aload_n 0, 1) := by decide +kernel
theorem dc_R_box_86 : decode bb_R_box 86 = .ok (.getfield 22, 3) := by decide +kernel
theorem dc_R_box_89 : decode bb_R_box 89 = .ok (.iload_n 1, 1) := by decide +kernel
theorem dc_R_box_90 : decode bb_R_box 90 = .ok (.iaload, 1) := by decide +kernel
theorem dc_R_box_91 : decode bb_R_box 91 = .ok (.ireturn, 1) := by decide +kernel
theorem dc_R_box_92 : decode bb_R_box 92 = .ok (.aload_n 0, 1) := by decide +kernel
theorem dc_R_box_93 : decode bb_R_box 93 = .ok (.getfield 25, 3) := by decide +kernel
theorem dc_R_box_96 : decode bb_R_box 96 = .ok (.iload_n 1, 1) := by decide +kernel
theorem dc_R_box_97 : decode bb_R_box 97 = .ok (.iaload, 1) := by decide +kernel
theorem dc_R_box_98 : decode bb_R_box 98 = .ok (.ireturn, 1) := by decide +kernel
theorem dc_R_box_99 : decode bb_R_box 99 = .ok (.aload_n 0, 1) := by decide +kernel
theorem dc_R_box_100 : decode bb_R_box 100 = .ok (.getfield 28, 3) := by decide +kernel
theorem dc_R_box_103 : decode bb_R_box 103 = .ok (.iload_n 1, 1) := by decide +kernel
theorem dc_R_box_104 : decode bb_R_box 104 = .ok (.iaload, 1) := by decide +kernel
theorem dc_R_box_105 : decode bb_R_box 105 = .ok (.ireturn, 1) := by decide +kernel
theorem dc_R_box_106 : decode bb_R_box 106 = .ok (.sipush (-1000), 3) := by decide +kernel
theorem dc_R_box_109 : decode bb_R_box 109 = .ok (.ireturn, 1) := by decide +kernel
theorem dc_R_tracks_0 : decode bb_R_tracks 0 = .ok (.aload_n 0, 1) := by decide +kernel
theorem dc_R_tracks_1 : decode bb_R_tracks 1 = .ok (.invokevirtual 137, 3) := by decide +kernel
theorem dc_R_tracks_4 : decode bb_R_tracks 4 = .ok (.istore_n 1, 1) := by decide +kernel
theorem dc_R_tracks_5 : decode bb_R_tracks 5 = .ok (.iload_n 1, 1) := by decide +kernel
theorem dc_R_tracks_6 : decode bb_R_tracks 6 = .ok (.ifCond .le 9, 3) := by decide +kernel
theorem dc_R_tracks_9 : decode bb_R_tracks 9 = .ok (.sipush (-1000), 3) := by decide +kernel
theorem dc_R_tracks_12 : decode bb_R_tracks 12 = .ok (.goto 7, 3) := by decide +kernel
theorem dc_R_tracks_15 : decode bb_R_tracks 15 = .ok (.aload_n 0, 1) := by decide +kernel
theorem dc_R_tracks_16 : decode bb_R_tracks 16 = .ok (.getfield 83, 3) := by decide +kernel
theorem dc_R_tracks_19 : decode bb_R_tracks 19 = .ok (.ireturn, 1) := by decide +kernel
theorem dc_R_samples_0 : decode bb_R_samples 0 = .ok (.aload_n 0, 1) := by decide +kernel
theorem dc_R_samples_1 : decode bb_R_samples 1 = .ok (.iload_n 1, 1) := by decide +kernel
theorem dc_R_samples_2 : decode bb_R_samples 2 = .ok (.invokevirtual 140, 3) := by decide +kernel
theorem dc_R_samples_5 : decode bb_R_samples 5 = .ok (.ifCond .eq 11, 3) := by decide +kernel
theorem dc_R_samples_8 : decode bb_R_samples 8 = .ok (.aload_n 0, 1) := by decide +kernel
theorem dc_R_samples_9 : decode bb_R_samples 9 = .ok (.iload_n 1, 1) := by decide +kernel
theorem dc_R_samples_10 : decode bb_R_samples 10 = .ok (.invokevirtual 110, 3) := by decide +kernel
theorem dc_R_samples_13 : decode bb_R_samples 13 = .ok (.goto 6, 3) := by decide +kernel
theorem dc_R_samples_16 : decode bb_R_samples 16 = .ok (.sipush (-1000), 3) := by decide +kernel
theorem dc_R_samples_19 : decode bb_R_samples 19 = .ok (.ireturn, 1) := by decide +kernel
theorem dc_R_isTrack_0 : decode bb_R_isTrack 0 = .ok (.aload_n 0, 1) := by decide +kernel
theorem dc_R_isTrack_1 : decode bb_R_isTrack 1 = .ok (.invokevirtual 137, 3) := by decide +kernel
theorem dc_R_isTrack_4 : decode bb_R_isTrack 4 = .ok (.istore_n 2, 1) := by decide +kernel
theorem dc_R_isTrack_5 : decode bb_R_isTrack 5 = .ok (.iload_n 2, 1) := by decide +kernel
theorem dc_R_isTrack_6 : decode bb_R_isTrack 6 = .ok (.ifCond .ne 19, 3) := by decide +kernel
theorem dc_R_isTrack_9 : decode bb_R_isTrack 9 = .ok (.iload_n 1, 1) := by decide +kernel
theorem dc_R_isTrack_10 : decode bb_R_isTrack 10 = .ok (.ifCond .lt 15, 3) := by decide +kernel
theorem dc_R_isTrack_13 : decode bb_R_isTrack 13 = .ok (.iload_n 1, 1) := by decide +kernel
theorem dc_R_isTrack_14 : decode bb_R_isTrack 14 = .ok (.aload_n 0, 1) := by decide +kernel
theorem dc_R_isTrack_15 : decode bb_R_isTrack 15 = .ok (.getfield 83, 3) := by decide +kernel
theorem dc_R_isTrack_18 : decode bb_R_isTrack 18 = .ok (.if_icmp .ge 7, 3) := by decide +kernel
theorem dc_R_isTrack_21 : decode bb_R_isTrack 21 = .ok (.iconst 1, 1) := by decide +kernel
theorem dc_R_isTrack_22 : decode bb_R_isTrack 22 = .ok (.goto 4, 3) := by decide +kernel
theorem dc_R_isTrack_25 : decode bb_R_isTrack 25 = .ok (.iconst 0, 1) := by decide +kernel
theorem dc_R_isTrack_26 : decode bb_R_isTrack 26 = .ok (.ireturn, 1) := by decide +kernel
theorem dc_R_sample_0 : decode bb_R_sample 0 = .ok (.aload_n 0, 1) := by decide +kernel
theorem dc_R_sample_1 : decode bb_R_sample 1 = .ok (.iload_n 1, 1) := by decide +kernel
theorem dc_R_sample_2 : decode bb_R_sample 2 = .ok (.invokevirtual 140, 3) := by decide +kernel
theorem dc_R_sample_5 : decode bb_R_sample 5 = .ok (.ifCond .eq 16, 3) := by decide +kernel
theorem dc_R_sample_8 : decode bb_R_sample 8 = .ok (.iload_n 2, 1) := by decide +kernel
theorem dc_R_sample_9 : decode bb_R_sample 9 = .ok (.ifCond .lt 12, 3) := by decide +kernel
theorem dc_R_sample_12 : decode bb_R_sample 12 = .ok (.iload_n 2, 1) := by decide +kernel
theorem dc_R_sample_13 : decode bb_R_sample 13 = .ok (.aload_n 0, 1) := by decide +kernel
theorem dc_R_sample_14 : decode bb_R_sample 14 = .ok (.iload_n 1, 1) := by decide +kernel
theorem dc_R_sample_15 : decode bb_R_sample 15 = .ok (.invokevirtual 110, 3) := by decide +kernel
theorem dc_R_sample_18 : decode bb_R_sample 18 = .ok (.if_icmp .lt 7, 3) := by decide +kernel
theorem dc_R_sample_21 : decode bb_R_sample 21 = .ok (.sipush (-1000), 3) := by decide +kernel
theorem dc_R_sample_24 : decode bb_R_sample 24 = .ok (.ireturn, 1) := by decide +kernel
theorem dc_R_sample_25 : decode bb_R_sample 25 = .ok (.iload_n 3, 1) := by decide +kernel
theorem dc_R_sample_26 : decode bb_R_sample 26 = .ok (.tableswitch 81 0 5 #[38, 46, 53, 60, 74, 38], 38) := by decide +kernel
theorem dc_R_sample_64 : decode bb_R_sample 64 = .ok (.aload_n 0, 1) := by decide +kernel
theorem dc_R_sample_65 : decode bb_R_sample 65 = .ok (.iload_n 1, 1) := by decide +kernel
theorem dc_R_sample_66 : decode bb_R_sample 66 = .ok (.iload_n 2, 1) := by decide +kernel
theorem dc_R_sample_67 : decode bb_R_sample 67 = .ok (.iload_n 3, 1) := by decide +kernel
theorem dc_R_sample_68 : decode bb_R_sample 68 = .ok (.invokevirtual 149, 3) := by decide +kernel
theorem dc_R_sample_71 : decode bb_R_sample 71 = .ok (.ireturn, 1) := by decide +kernel
theorem dc_R_sample_72 : decode bb_R_sample 72 = .ok (.aload_n 0, 1) := by decide +kernel
theorem dc_R_sample_73 : decode bb_R_sample 73 = .ok (.iload_n 1, 1) := by decide +kernel
theorem dc_R_sample_74 : decode bb_R_sample 74 = .ok (.iload_n 2, 1) := by decide +kernel
theorem dc_R_sample_75 : decode bb_R_sample 75 = .ok (.invokevirtual 128, 3) := by decide +kernel
theorem dc_R_sample_78 : decode bb_R_sample 78 = .ok (.ireturn, 1) := by decide +kernel
theorem dc_R_sample_79 : decode bb_R_sample 79 = .ok (.aload_n 0, 1) := by decide +kernel
theorem dc_R_sample_80 : decode bb_R_sample 80 = .ok (.iload_n 1, 1) := by decide +kernel
theorem dc_R_sample_81 : decode bb_R_sample 81 = .ok (.iload_n 2, 1) := by decide +kernel
theorem dc_R_sample_82 : decode bb_R_sample 82 = .ok (.invokevirtual 153, 3) := by decide +kernel
theorem dc_R_sample_85 : decode bb_R_sample 85 = .ok (.ireturn, 1) := by decide +kernel
theorem dc_R_sample_86 : decode bb_R_sample 86 = .ok (.aload_n 0, 1) := by decide +kernel
theorem dc_R_sample_87 : decode bb_R_sample 87 = .ok (.iload_n 1, 1) := by decide +kernel
theorem dc_R_sample_88 : decode bb_R_sample 88 = .ok (.iload_n 2, 1) := by decide +kernel
theorem dc_R_sample_89 : decode bb_R_sample 89 = .ok (.invokevirtual 153, 3) := by decide +kernel
theorem dc_R_sample_92 : decode bb_R_sample 92 = .ok (.aload_n 0, 1) := by decide +kernel
theorem dc_R_sample_93 : decode bb_R_sample 93 = .ok (.iload_n 1, 1) := by decide +kernel
theorem dc_R_sample_94 : decode bb_R_sample 94 = .ok (.iload_n 2, 1) := by decide +kernel
theorem dc_R_sample_95 : decode bb_R_sample 95 = .ok (.invokevirtual 156, 3) := by decide +kernel
theorem dc_R_sample_98 : decode bb_R_sample 98 = .ok (.iadd, 1) := by decide +kernel
theorem dc_R_sample_99 : decode bb_R_sample 99 = .ok (.ireturn, 1) := by decide +kernel
theorem dc_R_sample_100 : decode bb_R_sample 100 = .ok (.aload_n 0, 1) := by decide +kernel
theorem dc_R_sample_101 : decode bb_R_sample 101 = .ok (.iload_n 1, 1) := by decide +kernel
theorem dc_R_sample_102 : decode bb_R_sample 102 = .ok (.iload_n 2, 1) := by decide +kernel
theorem dc_R_sample_103 : decode bb_R_sample 103 = .ok (.invokevirtual 159, 3) := by decide +kernel
theorem dc_R_sample_106 : decode bb_R_sample 106 = .ok (.ireturn, 1) := by decide +kernel
theorem dc_R_sample_107 : decode bb_R_sample 107 = .ok (.sipush (-1000), 3) := by decide +kernel
theorem dc_R_sample_110 : decode bb_R_sample 110 = .ok (.ireturn, 1) := by decide +kernel
theorem dc_R_inChunk_0 : decode bb_R_inChunk 0 = .ok (.iconst 0, 1) := by decide +kernel
theorem dc_R_inChunk_1 : decode bb_R_inChunk 1 = .ok (.istore 4, 2) := by decide +kernel
theorem dc_R_inChunk_3 : decode bb_R_inChunk 3 = .ok (.iconst 1, 1) := by decide +kernel
theorem dc_R_inChunk_4 : decode bb_R_inChunk 4 = .ok (.istore 5, 2) := by decide +kernel
theorem dc_R_inChunk_6 : decode bb_R_inChunk 6 = .ok (.iload 5, 2) := by decide +kernel
theorem dc_R_inChunk_8 : decode bb_R_inChunk 8 = .ok (.aload_n 0, 1) := by decide +kernel
theorem dc_R_inChunk_9 : decode bb_R_inChunk 9 = .ok (.iload_n 1, 1) := by decide +kernel
theorem dc_R_inChunk_10 : decode bb_R_inChunk 10 = .ok (.invokevirtual 116, 3) := by decide +kernel
theorem dc_R_inChunk_13 : decode bb_R_inChunk 13 = .ok (.if_icmp .gt 111, 3) := by decide +kernel
theorem dc_R_inChunk_16 : decode bb_R_inChunk 16 = .ok (.aload_n 0, 1) := by decide +kernel
theorem dc_R_inChunk_17 : decode bb_R_inChunk 17 = .ok (.iload_n 1, 1) := by decide +kernel
theorem dc_R_inChunk_18 : decode bb_R_inChunk 18 = .ok (.iload 5, 2) := by decide +kernel
theorem dc_R_inChunk_20 : decode bb_R_inChunk 20 = .ok (.invokevirtual 119, 3) := by decide +kernel
theorem dc_R_inChunk_23 : decode bb_R_inChunk 23 = .ok (.istore 6, 2) := by decide +kernel
theorem dc_R_inChunk_25 : decode bb_R_inChunk 25 = .ok (.iload_n 2, 1) := by decide +kernel
theorem dc_R_inChunk_26 : decode bb_R_inChunk 26 = .ok (.iload 4, 2) := by decide +kernel
theorem dc_R_inChunk_28 : decode bb_R_inChunk 28 = .ok (.iload 6, 2) := by decide +kernel
theorem dc_R_inChunk_30 : decode bb_R_inChunk 30 = .ok (.iadd, 1) := by decide +kernel
theorem dc_R_inChunk_31 : decode bb_R_inChunk 31 = .ok (.if_icmp .ge 80, 3) := by decide +kernel
theorem dc_R_inChunk_34 : decode bb_R_inChunk 34 = .ok (.aload_n 0, 1) := by decide +kernel
theorem dc_R_inChunk_35 : decode bb_R_inChunk 35 = .ok (.iload_n 1, 1) := by decide +kernel
theorem dc_R_inChunk_36 : decode bb_R_inChunk 36 = .ok (.iload 5, 2) := by decide +kernel
theorem dc_R_inChunk_38 : decode bb_R_inChunk 38 = .ok (.invokevirtual 131, 3) := by decide +kernel
theorem dc_R_inChunk_41 : decode bb_R_inChunk 41 = .ok (.istore 7, 2) := by decide +kernel
theorem dc_R_inChunk_43 : decode bb_R_inChunk 43 = .ok (.iload 4, 2) := by decide +kernel
theorem dc_R_inChunk_45 : decode bb_R_inChunk 45 = .ok (.istore 8, 2) := by decide +kernel
theorem dc_R_inChunk_47 : decode bb_R_inChunk 47 = .ok (.iload 8, 2) := by decide +kernel
theorem dc_R_inChunk_49 : decode bb_R_inChunk 49 = .ok (.iload_n 2, 1) := by decide +kernel
theorem dc_R_inChunk_50 : decode bb_R_inChunk 50 = .ok (.if_icmp .ge 21, 3) := by decide +kernel
theorem dc_R_inChunk_53 : decode bb_R_inChunk 53 = .ok (.iload 7, 2) := by decide +kernel
theorem dc_R_inChunk_55 : decode bb_R_inChunk 55 = .ok (.aload_n 0, 1) := by decide +kernel
theorem dc_R_inChunk_56 : decode bb_R_inChunk 56 = .ok (.iload_n 1, 1) := by decide +kernel
theorem dc_R_inChunk_57 : decode bb_R_inChunk 57 = .ok (.iload 8, 2) := by decide +kernel
theorem dc_R_inChunk_59 : decode bb_R_inChunk 59 = .ok (.invokevirtual 128, 3) := by decide +kernel
theorem dc_R_inChunk_62 : decode bb_R_inChunk 62 = .ok (.iadd, 1) := by decide +kernel
theorem dc_R_inChunk_63 : decode bb_R_inChunk 63 = .ok (.istore 7, 2) := by decide +kernel
theorem dc_R_inChunk_65 : decode bb_R_inChunk 65 = .ok (.iinc 8 1, 3) := by decide +kernel
theorem dc_R_inChunk_68 : decode bb_R_inChunk 68 = .ok (.goto (-21), 3) := by decide +kernel
theorem dc_R_inChunk_71 : decode bb_R_inChunk 71 = .ok (.aload_n 0, 1) := by decide +kernel
theorem dc_R_inChunk_72 : decode bb_R_inChunk 72 = .ok (.iload_n 1, 1) := by decide +kernel
theorem dc_R_inChunk_73 : decode bb_R_inChunk 73 = .ok (.iload 5, 2) := by decide +kernel
theorem dc_R_inChunk_75 : decode bb_R_inChunk 75 = .ok (.invokevirtual 125, 3) := by decide +kernel
theorem dc_R_inChunk_78 : decode bb_R_inChunk 78 = .ok (.istore 8, 2) := by decide +kernel
theorem dc_R_inChunk_80 : decode bb_R_inChunk 80 = .ok (.iload_n 3, 1) := by decide +kernel
theorem dc_R_inChunk_81 : decode bb_R_inChunk 81 = .ok (.ifCond .ne 8, 3) := by decide +kernel
theorem dc_R_inChunk_84 : decode bb_R_inChunk 84 = .ok (.iload 7, 2) := by decide +kernel
theorem dc_R_inChunk_86 : decode bb_R_inChunk 86 = .ok (.goto 24, 3) := by decide +kernel
theorem dc_R_inChunk_89 : decode bb_R_inChunk 89 = .ok (.aload_n 0, 1) := by decide +kernel
theorem dc_R_inChunk_90 : decode bb_R_inChunk 90 = .ok (.aload_n 0, 1) := by decide +kernel
theorem dc_R_inChunk_91 : decode bb_R_inChunk 91 = .ok (.getfield 40, 3) := by decide +kernel
theorem dc_R_inChunk_94 : decode bb_R_inChunk 94 = .ok (.bipush 8, 2) := by decide +kernel
theorem dc_R_inChunk_96 : decode bb_R_inChunk 96 = .ok (.iload_n 1, 1) := by decide +kernel
theorem dc_R_inChunk_97 : decode bb_R_inChunk 97 = .ok (.imul, 1) := by decide +kernel
theorem dc_R_inChunk_98 : decode bb_R_inChunk 98 = .ok (.iconst 2, 1) := by decide +kernel
theorem dc_R_inChunk_99 : decode bb_R_inChunk 99 = .ok (.iadd, 1) := by decide +kernel
theorem dc_R_inChunk_100 : decode bb_R_inChunk 100 = .ok (.iaload, 1) := by decide +kernel
theorem dc_R_inChunk_101 : decode bb_R_inChunk 101 = .ok (.iconst 3, 1) := by decide +kernel
theorem dc_R_inChunk_102 : decode bb_R_inChunk 102 = .ok (.iconst 3, 1) := by decide +kernel
theorem dc_R_inChunk_103 : decode bb_R_inChunk 103 = .ok (.iload 8, 2) := by decide +kernel
theorem dc_R_inChunk_105 : decode bb_R_inChunk 105 = .ok (.imul, 1) := by decide +kernel
theorem dc_R_inChunk_106 : decode bb_R_inChunk 106 = .ok (.iadd, 1) := by decide +kernel
theorem dc_R_inChunk_107 : decode bb_R_inChunk 107 = .ok (.invokevirtual 106, 3) := by decide +kernel
theorem dc_R_inChunk_110 : decode bb_R_inChunk 110 = .ok (.ireturn, 1) := by decide +kernel
theorem dc_R_inChunk_111 : decode bb_R_inChunk 111 = .ok (.iload 4, 2) := by decide +kernel
theorem dc_R_inChunk_113 : decode bb_R_inChunk 113 = .ok (.iload 6, 2) := by decide +kernel
theorem dc_R_inChunk_115 : decode bb_R_inChunk 115 = .ok (.iadd, 1) := by decide +kernel
theorem dc_R_inChunk_116 : decode bb_R_inChunk 116 = .ok (.istore 4, 2) := by decide +kernel
theorem dc_R_inChunk_118 : decode bb_R_inChunk 118 = .ok (.iinc 5 1, 3) := by decide +kernel
theorem dc_R_inChunk_121 : decode bb_R_inChunk 121 = .ok (.goto (-115), 3) := by decide +kernel
theorem dc_R_inChunk_124 : decode bb_R_inChunk 124 = .ok (.sipush (-1000), 3) := by decide +kernel
theorem dc_R_inChunk_127 : decode bb_R_inChunk 127 = .ok (.ireturn, 1) := by decide +kernel
theorem dc_R_decodeTime_0 : decode bb_R_decodeTime 0 = .ok (.iconst 0, 1) := by decide +kernel
theorem dc_R_decodeTime_1 : decode bb_R_decodeTime 1 = .ok (.istore_n 3, 1) := by decide +kernel
theorem dc_R_decodeTime_2 : decode bb_R_decodeTime 2 = .ok (.iconst 0, 1) := by decide +kernel
theorem dc_R_decodeTime_3 : decode bb_R_decodeTime 3 = .ok (.istore 4, 2) := by decide +kernel
theorem dc_R_decodeTime_5 : decode bb_R_decodeTime 5 = .ok (.iload 4, 2) := by decide +kernel
theorem dc_R_decodeTime_7 : decode bb_R_decodeTime 7 = .ok (.iload_n 2, 1) := by decide +kernel
theorem dc_R_decodeTime_8 : decode bb_R_decodeTime 8 = .ok (.if_icmp .ge 19, 3) := by decide +kernel
theorem dc_R_decodeTime_11 : decode bb_R_decodeTime 11 = .ok (.iload_n 3, 1) := by decide +kernel
theorem dc_R_decodeTime_12 : decode bb_R_decodeTime 12 = .ok (.aload_n 0, 1) := by decide +kernel
theorem dc_R_decodeTime_13 : decode bb_R_decodeTime 13 = .ok (.iload_n 1, 1) := by decide +kernel
theorem dc_R_decodeTime_14 : decode bb_R_decodeTime 14 = .ok (.iload 4, 2) := by decide +kernel
theorem dc_R_decodeTime_16 : decode bb_R_decodeTime 16 = .ok (.invokevirtual 146, 3) := by decide +kernel
theorem dc_R_decodeTime_19 : decode bb_R_decodeTime 19 = .ok (.iadd, 1) := by decide +kernel
theorem dc_R_decodeTime_20 : decode bb_R_decodeTime 20 = .ok (.istore_n 3, 1) := by decide +kernel
theorem dc_R_decodeTime_21 : decode bb_R_decodeTime 21 = .ok (.iinc 4 1, 3) := by decide +kernel
theorem dc_R_decodeTime_24 : decode bb_R_decodeTime 24 = .ok (.goto (-19), 3) := by decide +kernel
theorem dc_R_decodeTime_27 : decode bb_R_decodeTime 27 = .ok (.iload_n 3, 1) := by decide +kernel
theorem dc_R_decodeTime_28 : decode bb_R_decodeTime 28 = .ok (.ireturn, 1) := by decide +kernel
theorem dc_R_durationOf_0 : decode bb_R_durationOf 0 = .ok (.aload_n 0, 1) := by decide +kernel
theorem dc_R_durationOf_1 : decode bb_R_durationOf 1 = .ok (.aload_n 0, 1) := by decide +kernel
theorem dc_R_durationOf_2 : decode bb_R_durationOf 2 = .ok (.getfield 40, 3) := by decide +kernel
theorem dc_R_durationOf_5 : decode bb_R_durationOf 5 = .ok (.bipush 8, 2) := by decide +kernel
theorem dc_R_durationOf_7 : decode bb_R_durationOf 7 = .ok (.iload_n 1, 1) := by decide +kernel
theorem dc_R_durationOf_8 : decode bb_R_durationOf 8 = .ok (.imul, 1) := by decide +kernel
theorem dc_R_durationOf_9 : decode bb_R_durationOf 9 = .ok (.iconst 0, 1) := by decide +kernel
theorem dc_R_durationOf_10 : decode bb_R_durationOf 10 = .ok (.iadd, 1) := by decide +kernel
theorem dc_R_durationOf_11 : decode bb_R_durationOf 11 = .ok (.iaload, 1) := by decide +kernel
theorem dc_R_durationOf_12 : decode bb_R_durationOf 12 = .ok (.iload_n 2, 1) := by decide +kernel
theorem dc_R_durationOf_13 : decode bb_R_durationOf 13 = .ok (.invokevirtual 143, 3) := by decide +kernel
theorem dc_R_durationOf_16 : decode bb_R_durationOf 16 = .ok (.ireturn, 1) := by decide +kernel
theorem dc_R_runValue_0 : decode bb_R_runValue 0 = .ok (.iconst 0, 1) := by decide +kernel
theorem dc_R_runValue_1 : decode bb_R_runValue 1 = .ok (.istore_n 3, 1) := by decide +kernel
theorem dc_R_runValue_2 : decode bb_R_runValue 2 = .ok (.iconst 0, 1) := by decide +kernel
theorem dc_R_runValue_3 : decode bb_R_runValue 3 = .ok (.istore 4, 2) := by decide +kernel
theorem dc_R_runValue_5 : decode bb_R_runValue 5 = .ok (.iload 4, 2) := by decide +kernel
theorem dc_R_runValue_7 : decode bb_R_runValue 7 = .ok (.aload_n 0, 1) := by decide +kernel
theorem dc_R_runValue_8 : decode bb_R_runValue 8 = .ok (.iload_n 1, 1) := by decide +kernel
theorem dc_R_runValue_9 : decode bb_R_runValue 9 = .ok (.iconst 0, 1) := by decide +kernel
theorem dc_R_runValue_10 : decode bb_R_runValue 10 = .ok (.invokevirtual 106, 3) := by decide +kernel
theorem dc_R_runValue_13 : decode bb_R_runValue 13 = .ok (.if_icmp .ge 40, 3) := by decide +kernel
theorem dc_R_runValue_16 : decode bb_R_runValue 16 = .ok (.iload_n 3, 1) := by decide +kernel
theorem dc_R_runValue_17 : decode bb_R_runValue 17 = .ok (.aload_n 0, 1) := by decide +kernel
theorem dc_R_runValue_18 : decode bb_R_runValue 18 = .ok (.iload_n 1, 1) := by decide +kernel
theorem dc_R_runValue_19 : decode bb_R_runValue 19 = .ok (.iconst 1, 1) := by decide +kernel
theorem dc_R_runValue_20 : decode bb_R_runValue 20 = .ok (.iconst 2, 1) := by decide +kernel
theorem dc_R_runValue_21 : decode bb_R_runValue 21 = .ok (.iload 4, 2) := by decide +kernel
theorem dc_R_runValue_23 : decode bb_R_runValue 23 = .ok (.imul, 1) := by decide +kernel
theorem dc_R_runValue_24 : decode bb_R_runValue 24 = .ok (.iadd, 1) := by decide +kernel
theorem dc_R_runValue_25 : decode bb_R_runValue 25 = .ok (.invokevirtual 106, 3) := by decide +kernel
theorem dc_R_runValue_28 : decode bb_R_runValue 28 = .ok (.iadd, 1) := by decide +kernel
theorem dc_R_runValue_29 : decode bb_R_runValue 29 = .ok (.istore_n 3, 1) := by decide +kernel
theorem dc_R_runValue_30 : decode bb_R_runValue 30 = .ok (.iload_n 2, 1) := by decide +kernel
theorem dc_R_runValue_31 : decode bb_R_runValue 31 = .ok (.iload_n 3, 1) := by decide +kernel
theorem dc_R_runValue_32 : decode bb_R_runValue 32 = .ok (.if_icmp .ge 15, 3) := by decide +kernel
theorem dc_R_runValue_35 : decode bb_R_runValue 35 = .ok (.aload_n 0, 1) := by decide +kernel
theorem dc_R_runValue_36 : decode bb_R_runValue 36 = .ok (.iload_n 1, 1) := by decide +kernel
theorem dc_R_runValue_37 : decode bb_R_runValue 37 = .ok (.iconst 2, 1) := by decide +kernel
theorem dc_R_runValue_38 : decode bb_R_runValue 38 = .ok (.iconst 2, 1) := by decide +kernel
theorem dc_R_runValue_39 : decode bb_R_runValue 39 = .ok (.iload 4, 2) := by decide +kernel
theorem dc_R_runValue_41 : decode bb_R_runValue 41 = .ok (.imul, 1) := by decide +kernel
theorem dc_R_runValue_42 : decode bb_R_runValue 42 = .ok (.iadd, 1) := by decide +kernel
theorem dc_R_runValue_43 : decode bb_R_runValue 43 = .ok (.invokevirtual 106, 3) := by decide +kernel
theorem dc_R_runValue_46 : decode bb_R_runValue 46 = .ok (.ireturn, 1) := by decide +kernel
theorem dc_R_runValue_47 : decode bb_R_runValue 47 = .ok (.iinc 4 1, 3) := by decide +kernel
theorem dc_R_runValue_50 : decode bb_R_runValue 50 = .ok (.goto (-45), 3) := by decide +kernel
theorem dc_R_runValue_53 : decode bb_R_runValue 53 = .ok (.iconst 0, 1) := by decide +kernel
theorem dc_R_runValue_54 : decode bb_R_runValue 54 = .ok (.ireturn, 1) := by decide +kernel
theorem dc_R_shiftOf_0 : decode bb_R_shiftOf 0 = .ok (.aload_n 0, 1) := by decide +kernel
theorem dc_R_shiftOf_1 : decode bb_R_shiftOf 1 = .ok (.getfield 40, 3) := by decide +kernel
theorem dc_R_shiftOf_4 : decode bb_R_shiftOf 4 = .ok (.bipush 8, 2) := by decide +kernel
theorem dc_R_shiftOf_6 : decode bb_R_shiftOf 6 = .ok (.iload_n 1, 1) := by decide +kernel
theorem dc_R_shiftOf_7 : decode bb_R_shiftOf 7 = .ok (.imul, 1) := by decide +kernel
theorem dc_R_shiftOf_8 : decode bb_R_shiftOf 8 = .ok (.iconst 1, 1) := by decide +kernel
theorem dc_R_shiftOf_9 : decode bb_R_shiftOf 9 = .ok (.iadd, 1) := by decide +kernel
theorem dc_R_shiftOf_10 : decode bb_R_shiftOf 10 = .ok (.iaload, 1) := by decide +kernel
theorem dc_R_shiftOf_11 : decode bb_R_shiftOf 11 = .ok (.istore_n 3, 1) := by decide +kernel
theorem dc_R_shiftOf_12 : decode bb_R_shiftOf 12 = .ok (.iload_n 3, 1) := by decide +kernel
theorem dc_R_shiftOf_13 : decode bb_R_shiftOf 13 = .ok (.ifCond .ge 7, 3) := by decide +kernel
theorem dc_R_shiftOf_16 : decode bb_R_shiftOf 16 = .ok (.iconst 0, 1) := by decide +kernel
theorem dc_R_shiftOf_17 : decode bb_R_shiftOf 17 = .ok (.goto 9, 3) := by decide +kernel
theorem dc_R_shiftOf_20 : decode bb_R_shiftOf 20 = .ok (.aload_n 0, 1) := by decide +kernel
theorem dc_R_shiftOf_21 : decode bb_R_shiftOf 21 = .ok (.iload_n 3, 1) := by decide +kernel
theorem dc_R_shiftOf_22 : decode bb_R_shiftOf 22 = .ok (.iload_n 2, 1) := by decide +kernel
theorem dc_R_shiftOf_23 : decode bb_R_shiftOf 23 = .ok (.invokevirtual 143, 3) := by decide +kernel
theorem dc_R_shiftOf_26 : decode bb_R_shiftOf 26 = .ok (.istore 4, 2) := by decide +kernel
theorem dc_R_shiftOf_28 : decode bb_R_shiftOf 28 = .ok (.iload 4, 2) := by decide +kernel
theorem dc_R_shiftOf_30 : decode bb_R_shiftOf 30 = .ok (.sipush 128, 3) := by decide +kernel
theorem dc_R_shiftOf_33 : decode bb_R_shiftOf 33 = .ok (.if_icmp .ge 8, 3) := by decide +kernel
theorem dc_R_shiftOf_36 : decode bb_R_shiftOf 36 = .ok (.iload 4, 2) := by decide +kernel
theorem dc_R_shiftOf_38 : decode bb_R_shiftOf 38 = .ok (.goto 9, 3) := by decide +kernel
theorem dc_R_shiftOf_41 : decode bb_R_shiftOf 41 = .ok (.iload 4, 2) := by decide +kernel
theorem dc_R_shiftOf_43 : decode bb_R_shiftOf 43 = .ok (.sipush 256, 3) := by decide +kernel
theorem dc_R_shiftOf_46 : decode bb_R_shiftOf 46 = .ok (.isub, 1) := by decide +kernel
theorem dc_R_shiftOf_47 : decode bb_R_shiftOf 47 = .ok (.ireturn, 1) := by decide +kernel
theorem dc_R_isSync_0 : decode bb_R_isSync 0 = .ok (.aload_n 0, 1) := by decide +kernel
theorem dc_R_isSync_1 : decode bb_R_isSync 1 = .ok (.getfield 40, 3) := by decide +kernel
theorem dc_R_isSync_4 : decode bb_R_isSync 4 = .ok (.bipush 8, 2) := by decide +kernel
theorem dc_R_isSync_6 : decode bb_R_isSync 6 = .ok (.iload_n 1, 1) := by decide +kernel
theorem dc_R_isSync_7 : decode bb_R_isSync 7 = .ok (.imul, 1) := by decide +kernel
theorem dc_R_isSync_8 : decode bb_R_isSync 8 = .ok (.bipush 6, 2) := by decide +kernel
theorem dc_R_isSync_10 : decode bb_R_isSync 10 = .ok (.iadd, 1) := by decide +kernel
theorem dc_R_isSync_11 : decode bb_R_isSync 11 = .ok (.iaload, 1) := by decide +kernel
theorem dc_R_isSync_12 : decode bb_R_isSync 12 = .ok (.istore_n 3, 1) := by decide +kernel
theorem dc_R_isSync_13 : decode bb_R_isSync 13 = .ok (.iload_n 3, 1) := by decide +kernel
theorem dc_R_isSync_14 : decode bb_R_isSync 14 = .ok (.ifCond .ge 7, 3) := by decide +kernel
theorem dc_R_isSync_17 : decode bb_R_isSync 17 = .ok (.iconst 1, 1) := by decide +kernel
theorem dc_R_isSync_18 : decode bb_R_isSync 18 = .ok (.goto 4, 3) := by decide +kernel
theorem dc_R_isSync_21 : decode bb_R_isSync 21 = .ok (.iconst 0, 1) := by decide +kernel
theorem dc_R_isSync_22 : decode bb_R_isSync 22 = .ok (.istore 4, 2) := by decide +kernel
theorem dc_R_isSync_24 : decode bb_R_isSync 24 = .ok (.iload_n 3, 1) := by decide +kernel
theorem dc_R_isSync_25 : decode bb_R_isSync 25 = .ok (.ifCond .ge 7, 3) := by decide +kernel
theorem dc_R_isSync_28 : decode bb_R_isSync 28 = .ok (.iconst 0, 1) := by decide +kernel
theorem dc_R_isSync_29 : decode bb_R_isSync 29 = .ok (.goto 9, 3) := by decide +kernel
theorem dc_R_isSync_32 : decode bb_R_isSync 32 = .ok (.aload_n 0, 1) := by decide +kernel
theorem dc_R_isSync_33 : decode bb_R_isSync 33 = .ok (.iload_n 3, 1) := by decide +kernel
theorem dc_R_isSync_34 : decode bb_R_isSync 34 = .ok (.iconst 0, 1) := by decide +kernel
theorem dc_R_isSync_35 : decode bb_R_isSync 35 = .ok (.invokevirtual 106, 3) := by decide +kernel
theorem dc_R_isSync_38 : decode bb_R_isSync 38 = .ok (.istore 5, 2) := by decide +kernel
theorem dc_R_isSync_40 : decode bb_R_isSync 40 = .ok (.iconst 0, 1) := by decide +kernel
theorem dc_R_isSync_41 : decode bb_R_isSync 41 = .ok (.istore 6, 2) := by decide +kernel
theorem dc_R_isSync_43 : decode bb_R_isSync 43 = .ok (.iload 6, 2) := by decide +kernel
theorem dc_R_isSync_45 : decode bb_R_isSync 45 = .ok (.iload 5, 2) := by decide +kernel
theorem dc_R_isSync_47 : decode bb_R_isSync 47 = .ok (.if_icmp .ge 32, 3) := by decide +kernel
theorem dc_R_isSync_50 : decode bb_R_isSync 50 = .ok (.aload_n 0, 1) := by decide +kernel
theorem dc_R_isSync_51 : decode bb_R_isSync 51 = .ok (.iload_n 3, 1) := by decide +kernel
theorem dc_R_isSync_52 : decode bb_R_isSync 52 = .ok (.iconst 1, 1) := by decide +kernel
theorem dc_R_isSync_53 : decode bb_R_isSync 53 = .ok (.iload 6, 2) := by decide +kernel
theorem dc_R_isSync_55 : decode bb_R_isSync 55 = .ok (.iadd, 1) := by decide +kernel
theorem dc_R_isSync_56 : decode bb_R_isSync 56 = .ok (.invokevirtual 106, 3) := by decide +kernel
theorem dc_R_isSync_59 : decode bb_R_isSync 59 = .ok (.iload_n 2, 1) := by decide +kernel
theorem dc_R_isSync_60 : decode bb_R_isSync 60 = .ok (.iconst 1, 1) := by decide +kernel
theorem dc_R_isSync_61 : decode bb_R_isSync 61 = .ok (.iadd, 1) := by decide +kernel
theorem dc_R_isSync_62 : decode bb_R_isSync 62 = .ok (.if_icmp .ne 7, 3) := by decide +kernel
theorem dc_R_isSync_65 : decode bb_R_isSync 65 = .ok (.iconst 1, 1) := by decide +kernel
theorem dc_R_isSync_66 : decode bb_R_isSync 66 = .ok (.goto 5, 3) := by decide +kernel
theorem dc_R_isSync_69 : decode bb_R_isSync 69 = .ok (.iload 4, 2) := by decide +kernel
theorem dc_R_isSync_71 : decode bb_R_isSync 71 = .ok (.istore 4, 2) := by decide +kernel
theorem dc_R_isSync_73 : decode bb_R_isSync 73 = .ok (.iinc 6 1, 3) := by decide +kernel
theorem dc_R_isSync_76 : decode bb_R_isSync 76 = .ok (.goto (-33), 3) := by decide +kernel
theorem dc_R_isSync_79 : decode bb_R_isSync 79 = .ok (.iload 4, 2) := by decide +kernel
theorem dc_R_isSync_81 : decode bb_R_isSync 81 = .ok (.ireturn, 1) := by decide +kernel
theorem dc_R_shown_0 : decode bb_R_shown 0 = .ok (.iload_n 2, 1) := by decide +kernel
theorem dc_R_shown_1 : decode bb_R_shown 1 = .ok (.ifCond .lt 11, 3) := by decide +kernel
theorem dc_R_shown_4 : decode bb_R_shown 4 = .ok (.aload_n 0, 1) := by decide +kernel
theorem dc_R_shown_5 : decode bb_R_shown 5 = .ok (.iload_n 1, 1) := by decide +kernel
theorem dc_R_shown_6 : decode bb_R_shown 6 = .ok (.invokevirtual 140, 3) := by decide +kernel
theorem dc_R_shown_9 : decode bb_R_shown 9 = .ok (.ifCond .ne 7, 3) := by decide +kernel
theorem dc_R_shown_12 : decode bb_R_shown 12 = .ok (.sipush (-1000), 3) := by decide +kernel
theorem dc_R_shown_15 : decode bb_R_shown 15 = .ok (.ireturn, 1) := by decide +kernel
theorem dc_R_shown_16 : decode bb_R_shown 16 = .ok (.aload_n 0, 1) := by decide +kernel
theorem dc_R_shown_17 : decode bb_R_shown 17 = .ok (.iload_n 1, 1) := by decide +kernel
theorem dc_R_shown_18 : decode bb_R_shown 18 = .ok (.iload_n 2, 1) := by decide +kernel
theorem dc_R_shown_19 : decode bb_R_shown 19 = .ok (.invokevirtual 162, 3) := by decide +kernel
theorem dc_R_shown_22 : decode bb_R_shown 22 = .ok (.istore_n 3, 1) := by decide +kernel
theorem dc_R_shown_23 : decode bb_R_shown 23 = .ok (.iload_n 3, 1) := by decide +kernel
theorem dc_R_shown_24 : decode bb_R_shown 24 = .ok (.sipush (-1000), 3) := by decide +kernel
theorem dc_R_shown_27 : decode bb_R_shown 27 = .ok (.if_icmp .ne 7, 3) := by decide +kernel
theorem dc_R_shown_30 : decode bb_R_shown 30 = .ok (.sipush (-1000), 3) := by decide +kernel
theorem dc_R_shown_33 : decode bb_R_shown 33 = .ok (.ireturn, 1) := by decide +kernel
theorem dc_R_shown_34 : decode bb_R_shown 34 = .ok (.iconst 0, 1) := by decide +kernel
theorem dc_R_shown_35 : decode bb_R_shown 35 = .ok (.istore 4, 2) := by decide +kernel
theorem dc_R_shown_37 : decode bb_R_shown 37 = .ok (.iconst 0, 1) := by decide +kernel
theorem dc_R_shown_38 : decode bb_R_shown 38 = .ok (.istore 5, 2) := by decide +kernel
theorem dc_R_shown_40 : decode bb_R_shown 40 = .ok (.iload 5, 2) := by decide +kernel
theorem dc_R_shown_42 : decode bb_R_shown 42 = .ok (.aload_n 0, 1) := by decide +kernel
theorem dc_R_shown_43 : decode bb_R_shown 43 = .ok (.iload_n 1, 1) := by decide +kernel
theorem dc_R_shown_44 : decode bb_R_shown 44 = .ok (.invokevirtual 110, 3) := by decide +kernel
theorem dc_R_shown_47 : decode bb_R_shown 47 = .ok (.if_icmp .ge 55, 3) := by decide +kernel
theorem dc_R_shown_50 : decode bb_R_shown 50 = .ok (.iload 4, 2) := by decide +kernel
theorem dc_R_shown_52 : decode bb_R_shown 52 = .ok (.aload_n 0, 1) := by decide +kernel
theorem dc_R_shown_53 : decode bb_R_shown 53 = .ok (.iload_n 1, 1) := by decide +kernel
theorem dc_R_shown_54 : decode bb_R_shown 54 = .ok (.iload 5, 2) := by decide +kernel
theorem dc_R_shown_56 : decode bb_R_shown 56 = .ok (.invokevirtual 156, 3) := by decide +kernel
theorem dc_R_shown_59 : decode bb_R_shown 59 = .ok (.iadd, 1) := by decide +kernel
theorem dc_R_shown_60 : decode bb_R_shown 60 = .ok (.istore 6, 2) := by decide +kernel
theorem dc_R_shown_62 : decode bb_R_shown 62 = .ok (.aload_n 0, 1) := by decide +kernel
theorem dc_R_shown_63 : decode bb_R_shown 63 = .ok (.iload_n 1, 1) := by decide +kernel
theorem dc_R_shown_64 : decode bb_R_shown 64 = .ok (.iload 5, 2) := by decide +kernel
theorem dc_R_shown_66 : decode bb_R_shown 66 = .ok (.invokevirtual 146, 3) := by decide +kernel
theorem dc_R_shown_69 : decode bb_R_shown 69 = .ok (.istore 7, 2) := by decide +kernel
theorem dc_R_shown_71 : decode bb_R_shown 71 = .ok (.iload_n 3, 1) := by decide +kernel
theorem dc_R_shown_72 : decode bb_R_shown 72 = .ok (.iload 6, 2) := by decide +kernel
theorem dc_R_shown_74 : decode bb_R_shown 74 = .ok (.if_icmp .lt 15, 3) := by decide +kernel
theorem dc_R_shown_77 : decode bb_R_shown 77 = .ok (.iload_n 3, 1) := by decide +kernel
theorem dc_R_shown_78 : decode bb_R_shown 78 = .ok (.iload 6, 2) := by decide +kernel
theorem dc_R_shown_80 : decode bb_R_shown 80 = .ok (.iload 7, 2) := by decide +kernel
theorem dc_R_shown_82 : decode bb_R_shown 82 = .ok (.iadd, 1) := by decide +kernel
theorem dc_R_shown_83 : decode bb_R_shown 83 = .ok (.if_icmp .ge 6, 3) := by decide +kernel
theorem dc_R_shown_86 : decode bb_R_shown 86 = .ok (.iload 5, 2) := by decide +kernel
theorem dc_R_shown_88 : decode bb_R_shown 88 = .ok (.ireturn, 1) := by decide +kernel
theorem dc_R_shown_89 : decode bb_R_shown 89 = .ok (.iload 4, 2) := by decide +kernel
theorem dc_R_shown_91 : decode bb_R_shown 91 = .ok (.iload 7, 2) := by decide +kernel
theorem dc_R_shown_93 : decode bb_R_shown 93 = .ok (.iadd, 1) := by decide +kernel
theorem dc_R_shown_94 : decode bb_R_shown 94 = .ok (.istore 4, 2) := by decide +kernel
theorem dc_R_shown_96 : decode bb_R_shown 96 = .ok (.iinc 5 1, 3) := by decide +kernel
theorem dc_R_shown_99 : decode bb_R_shown 99 = .ok (.goto (-59), 3) := by decide +kernel
theorem dc_R_shown_102 : decode bb_R_shown 102 = .ok (.sipush (-1000), 3) := by decide +kernel
theorem dc_R_shown_105 : decode bb_R_shown 105 = .ok (.ireturn, 1) := by decide +kernel
theorem dc_R_mediaTime_0 : decode bb_R_mediaTime 0 = .ok (.aload_n 0, 1) := by decide +kernel
theorem dc_R_mediaTime_1 : decode bb_R_mediaTime 1 = .ok (.getfield 40, 3) := by decide +kernel
theorem dc_R_mediaTime_4 : decode bb_R_mediaTime 4 = .ok (.bipush 8, 2) := by decide +kernel
theorem dc_R_mediaTime_6 : decode bb_R_mediaTime 6 = .ok (.iload_n 1, 1) := by decide +kernel
theorem dc_R_mediaTime_7 : decode bb_R_mediaTime 7 = .ok (.imul, 1) := by decide +kernel
theorem dc_R_mediaTime_8 : decode bb_R_mediaTime 8 = .ok (.bipush 7, 2) := by decide +kernel
theorem dc_R_mediaTime_10 : decode bb_R_mediaTime 10 = .ok (.iadd, 1) := by decide +kernel
theorem dc_R_mediaTime_11 : decode bb_R_mediaTime 11 = .ok (.iaload, 1) := by decide +kernel
theorem dc_R_mediaTime_12 : decode bb_R_mediaTime 12 = .ok (.istore_n 3, 1) := by decide +kernel
theorem dc_R_mediaTime_13 : decode bb_R_mediaTime 13 = .ok (.iload_n 3, 1) := by decide +kernel
theorem dc_R_mediaTime_14 : decode bb_R_mediaTime 14 = .ok (.ifCond .ge 5, 3) := by decide +kernel
theorem dc_R_mediaTime_17 : decode bb_R_mediaTime 17 = .ok (.iload_n 2, 1) := by decide +kernel
theorem dc_R_mediaTime_18 : decode bb_R_mediaTime 18 = .ok (.ireturn, 1) := by decide +kernel
theorem dc_R_mediaTime_19 : decode bb_R_mediaTime 19 = .ok (.iconst 0, 1) := by decide +kernel
theorem dc_R_mediaTime_20 : decode bb_R_mediaTime 20 = .ok (.istore 4, 2) := by decide +kernel
theorem dc_R_mediaTime_22 : decode bb_R_mediaTime 22 = .ok (.iconst 0, 1) := by decide +kernel
theorem dc_R_mediaTime_23 : decode bb_R_mediaTime 23 = .ok (.istore 5, 2) := by decide +kernel
theorem dc_R_mediaTime_25 : decode bb_R_mediaTime 25 = .ok (.iload 5, 2) := by decide +kernel
theorem dc_R_mediaTime_27 : decode bb_R_mediaTime 27 = .ok (.aload_n 0, 1) := by decide +kernel
theorem dc_R_mediaTime_28 : decode bb_R_mediaTime 28 = .ok (.iload_n 3, 1) := by decide +kernel
theorem dc_R_mediaTime_29 : decode bb_R_mediaTime 29 = .ok (.iconst 0, 1) := by decide +kernel
theorem dc_R_mediaTime_30 : decode bb_R_mediaTime 30 = .ok (.invokevirtual 106, 3) := by decide +kernel
theorem dc_R_mediaTime_33 : decode bb_R_mediaTime 33 = .ok (.if_icmp .ge 73, 3) := by decide +kernel
theorem dc_R_mediaTime_36 : decode bb_R_mediaTime 36 = .ok (.aload_n 0, 1) := by decide +kernel
theorem dc_R_mediaTime_37 : decode bb_R_mediaTime 37 = .ok (.iload_n 3, 1) := by decide +kernel
theorem dc_R_mediaTime_38 : decode bb_R_mediaTime 38 = .ok (.iconst 1, 1) := by decide +kernel
theorem dc_R_mediaTime_39 : decode bb_R_mediaTime 39 = .ok (.iconst 2, 1) := by decide +kernel
theorem dc_R_mediaTime_40 : decode bb_R_mediaTime 40 = .ok (.iload 5, 2) := by decide +kernel
theorem dc_R_mediaTime_42 : decode bb_R_mediaTime 42 = .ok (.imul, 1) := by decide +kernel
theorem dc_R_mediaTime_43 : decode bb_R_mediaTime 43 = .ok (.iadd, 1) := by decide +kernel
theorem dc_R_mediaTime_44 : decode bb_R_mediaTime 44 = .ok (.invokevirtual 106, 3) := by decide +kernel
theorem dc_R_mediaTime_47 : decode bb_R_mediaTime 47 = .ok (.istore 6, 2) := by decide +kernel
theorem dc_R_mediaTime_49 : decode bb_R_mediaTime 49 = .ok (.iload_n 2, 1) := by decide +kernel
theorem dc_R_mediaTime_50 : decode bb_R_mediaTime 50 = .ok (.iload 4, 2) := by decide +kernel
theorem dc_R_mediaTime_52 : decode bb_R_mediaTime 52 = .ok (.iload 6, 2) := by decide +kernel
theorem dc_R_mediaTime_54 : decode bb_R_mediaTime 54 = .ok (.iadd, 1) := by decide +kernel
theorem dc_R_mediaTime_55 : decode bb_R_mediaTime 55 = .ok (.if_icmp .ge 38, 3) := by decide +kernel
theorem dc_R_mediaTime_58 : decode bb_R_mediaTime 58 = .ok (.aload_n 0, 1) := by decide +kernel
theorem dc_R_mediaTime_59 : decode bb_R_mediaTime 59 = .ok (.iload_n 3, 1) := by decide +kernel
theorem dc_R_mediaTime_60 : decode bb_R_mediaTime 60 = .ok (.iconst 2, 1) := by decide +kernel
theorem dc_R_mediaTime_61 : decode bb_R_mediaTime 61 = .ok (.iconst 2, 1) := by decide +kernel
theorem dc_R_mediaTime_62 : decode bb_R_mediaTime 62 = .ok (.iload 5, 2) := by decide +kernel
theorem dc_R_mediaTime_64 : decode bb_R_mediaTime 64 = .ok (.imul, 1) := by decide +kernel
theorem dc_R_mediaTime_65 : decode bb_R_mediaTime 65 = .ok (.iadd, 1) := by decide +kernel
theorem dc_R_mediaTime_66 : decode bb_R_mediaTime 66 = .ok (.invokevirtual 106, 3) := by decide +kernel
theorem dc_R_mediaTime_69 : decode bb_R_mediaTime 69 = .ok (.istore 7, 2) := by decide +kernel
theorem dc_R_mediaTime_71 : decode bb_R_mediaTime 71 = .ok (.iload 7, 2) := by decide +kernel
theorem dc_R_mediaTime_73 : decode bb_R_mediaTime 73 = .ok (.sipush 255, 3) := by decide +kernel
theorem dc_R_mediaTime_76 : decode bb_R_mediaTime 76 = .ok (.if_icmp .ne 9, 3) := by decide +kernel
theorem dc_R_mediaTime_79 : decode bb_R_mediaTime 79 = .ok (.sipush (-1000), 3) := by decide +kernel
theorem dc_R_mediaTime_82 : decode bb_R_mediaTime 82 = .ok (.goto 10, 3) := by decide +kernel
theorem dc_R_mediaTime_85 : decode bb_R_mediaTime 85 = .ok (.iload 7, 2) := by decide +kernel
theorem dc_R_mediaTime_87 : decode bb_R_mediaTime 87 = .ok (.iload_n 2, 1) := by decide +kernel
theorem dc_R_mediaTime_88 : decode bb_R_mediaTime 88 = .ok (.iadd, 1) := by decide +kernel
theorem dc_R_mediaTime_89 : decode bb_R_mediaTime 89 = .ok (.iload 4, 2) := by decide +kernel
theorem dc_R_mediaTime_91 : decode bb_R_mediaTime 91 = .ok (.isub, 1) := by decide +kernel
theorem dc_R_mediaTime_92 : decode bb_R_mediaTime 92 = .ok (.ireturn, 1) := by decide +kernel
theorem dc_R_mediaTime_93 : decode bb_R_mediaTime 93 = .ok (.iload 4, 2) := by decide +kernel
theorem dc_R_mediaTime_95 : decode bb_R_mediaTime 95 = .ok (.iload 6, 2) := by decide +kernel
theorem dc_R_mediaTime_97 : decode bb_R_mediaTime 97 = .ok (.iadd, 1) := by decide +kernel
theorem dc_R_mediaTime_98 : decode bb_R_mediaTime 98 = .ok (.istore 4, 2) := by decide +kernel
theorem dc_R_mediaTime_100 : decode bb_R_mediaTime 100 = .ok (.iinc 5 1, 3) := by decide +kernel
theorem dc_R_mediaTime_103 : decode bb_R_mediaTime 103 = .ok (.goto (-78), 3) := by decide +kernel
theorem dc_R_mediaTime_106 : decode bb_R_mediaTime 106 = .ok (.sipush (-1000), 3) := by decide +kernel
theorem dc_R_mediaTime_109 : decode bb_R_mediaTime 109 = .ok (.ireturn, 1) := by decide +kernel
theorem dc_R_fastStart_0 : decode bb_R_fastStart 0 = .ok (.aload_n 0, 1) := by decide +kernel
theorem dc_R_fastStart_1 : decode bb_R_fastStart 1 = .ok (.invokevirtual 137, 3) := by decide +kernel
theorem dc_R_fastStart_4 : decode bb_R_fastStart 4 = .ok (.istore_n 1, 1) := by decide +kernel
theorem dc_R_fastStart_5 : decode bb_R_fastStart 5 = .ok (.iload_n 1, 1) := by decide +kernel
theorem dc_R_fastStart_6 : decode bb_R_fastStart 6 = .ok (.ifCond .le 5, 3) := by decide +kernel
theorem dc_R_fastStart_9 : decode bb_R_fastStart 9 = .ok (.iconst (-1), 1) := by decide +kernel
theorem dc_R_fastStart_10 : decode bb_R_fastStart 10 = .ok (.ireturn, 1) := by decide +kernel
theorem dc_R_fastStart_11 : decode bb_R_fastStart 11 = .ok (.aload_n 0, 1) := by decide +kernel
theorem dc_R_fastStart_12 : decode bb_R_fastStart 12 = .ok (.invokevirtual 168, 3) := by decide +kernel
theorem dc_R_fastStart_15 : decode bb_R_fastStart 15 = .ok (.istore_n 2, 1) := by decide +kernel
theorem dc_R_fastStart_16 : decode bb_R_fastStart 16 = .ok (.iload_n 2, 1) := by decide +kernel
theorem dc_R_fastStart_17 : decode bb_R_fastStart 17 = .ok (.ifCond .lt 11, 3) := by decide +kernel
theorem dc_R_fastStart_20 : decode bb_R_fastStart 20 = .ok (.iload_n 2, 1) := by decide +kernel
theorem dc_R_fastStart_21 : decode bb_R_fastStart 21 = .ok (.aload_n 0, 1) := by decide +kernel
theorem dc_R_fastStart_22 : decode bb_R_fastStart 22 = .ok (.getfield 96, 3) := by decide +kernel
theorem dc_R_fastStart_25 : decode bb_R_fastStart 25 = .ok (.if_icmp .le 13, 3) := by decide +kernel
theorem dc_R_fastStart_28 : decode bb_R_fastStart 28 = .ok (.aload_n 0, 1) := by decide +kernel
theorem dc_R_fastStart_29 : decode bb_R_fastStart 29 = .ok (.getfield 16, 3) := by decide +kernel
theorem dc_R_fastStart_32 : decode bb_R_fastStart 32 = .ok (.aload_n 0, 1) := by decide +kernel
theorem dc_R_fastStart_33 : decode bb_R_fastStart 33 = .ok (.getfield 96, 3) := by decide +kernel
theorem dc_R_fastStart_36 : decode bb_R_fastStart 36 = .ok (.iaload, 1) := by decide +kernel
theorem dc_R_fastStart_37 : decode bb_R_fastStart 37 = .ok (.ireturn, 1) := by decide +kernel
theorem dc_R_fastStart_38 : decode bb_R_fastStart 38 = .ok (.iconst (-1), 1) := by decide +kernel
theorem dc_R_fastStart_39 : decode bb_R_fastStart 39 = .ok (.istore_n 3, 1) := by decide +kernel
theorem dc_R_fastStart_40 : decode bb_R_fastStart 40 = .ok (.iconst 0, 1) := by decide +kernel
theorem dc_R_fastStart_41 : decode bb_R_fastStart 41 = .ok (.istore 4, 2) := by decide +kernel
theorem dc_R_fastStart_43 : decode bb_R_fastStart 43 = .ok (.iload 4, 2) := by decide +kernel
theorem dc_R_fastStart_45 : decode bb_R_fastStart 45 = .ok (.iconst 4, 1) := by decide +kernel
theorem dc_R_fastStart_46 : decode bb_R_fastStart 46 = .ok (.if_icmp .ge 35, 3) := by decide +kernel
theorem dc_R_fastStart_49 : decode bb_R_fastStart 49 = .ok (.aload_n 0, 1) := by decide +kernel
theorem dc_R_fastStart_50 : decode bb_R_fastStart 50 = .ok (.iload 4, 2) := by decide +kernel
theorem dc_R_fastStart_52 : decode bb_R_fastStart 52 = .ok (.invokevirtual 171, 3) := by decide +kernel
theorem dc_R_fastStart_55 : decode bb_R_fastStart 55 = .ok (.istore 5, 2) := by decide +kernel
theorem dc_R_fastStart_57 : decode bb_R_fastStart 57 = .ok (.iload_n 3, 1) := by decide +kernel
theorem dc_R_fastStart_58 : decode bb_R_fastStart 58 = .ok (.ifCond .ge 17, 3) := by decide +kernel
theorem dc_R_fastStart_61 : decode bb_R_fastStart 61 = .ok (.aload_n 0, 1) := by decide +kernel
theorem dc_R_fastStart_62 : decode bb_R_fastStart 62 = .ok (.iload 5, 2) := by decide +kernel
theorem dc_R_fastStart_64 : decode bb_R_fastStart 64 = .ok (.invokevirtual 174, 3) := by decide +kernel
theorem dc_R_fastStart_67 : decode bb_R_fastStart 67 = .ok (.iload 4, 2) := by decide +kernel
theorem dc_R_fastStart_69 : decode bb_R_fastStart 69 = .ok (.if_icmp .ne 6, 3) := by decide +kernel
theorem dc_R_fastStart_72 : decode bb_R_fastStart 72 = .ok (.iload 4, 2) := by decide +kernel
theorem dc_R_fastStart_74 : decode bb_R_fastStart 74 = .ok (.istore_n 3, 1) := by decide +kernel
theorem dc_R_fastStart_75 : decode bb_R_fastStart 75 = .ok (.iinc 4 1, 3) := by decide +kernel
theorem dc_R_fastStart_78 : decode bb_R_fastStart 78 = .ok (.goto (-35), 3) := by decide +kernel
theorem dc_R_fastStart_81 : decode bb_R_fastStart 81 = .ok (.aload_n 0, 1) := by decide +kernel
theorem dc_R_fastStart_82 : decode bb_R_fastStart 82 = .ok (.iload_n 3, 1) := by decide +kernel
theorem dc_R_fastStart_83 : decode bb_R_fastStart 83 = .ok (.invokevirtual 171, 3) := by decide +kernel
theorem dc_R_fastStart_86 : decode bb_R_fastStart 86 = .ok (.istore 4, 2) := by decide +kernel
theorem dc_R_fastStart_88 : decode bb_R_fastStart 88 = .ok (.aload_n 0, 1) := by decide +kernel
theorem dc_R_fastStart_89 : decode bb_R_fastStart 89 = .ok (.getfield 58, 3) := by decide +kernel
theorem dc_R_fastStart_92 : decode bb_R_fastStart 92 = .ok (.aload_n 0, 1) := by decide +kernel
theorem dc_R_fastStart_93 : decode bb_R_fastStart 93 = .ok (.getfield 16, 3) := by decide +kernel
theorem dc_R_fastStart_96 : decode bb_R_fastStart 96 = .ok (.aload_n 0, 1) := by decide +kernel
theorem dc_R_fastStart_97 : decode bb_R_fastStart 97 = .ok (.getfield 96, 3) := by decide +kernel
theorem dc_R_fastStart_100 : decode bb_R_fastStart 100 = .ok (.iaload, 1) := by decide +kernel
theorem dc_R_fastStart_101 : decode bb_R_fastStart 101 = .ok (.isub, 1) := by decide +kernel
theorem dc_R_fastStart_102 : decode bb_R_fastStart 102 = .ok (.iload 4, 2) := by decide +kernel
theorem dc_R_fastStart_104 : decode bb_R_fastStart 104 = .ok (.iadd, 1) := by decide +kernel
theorem dc_R_fastStart_105 : decode bb_R_fastStart 105 = .ok (.sipush 1000, 3) := by decide +kernel
theorem dc_R_fastStart_108 : decode bb_R_fastStart 108 = .ok (.if_icmp .le 6, 3) := by decide +kernel
theorem dc_R_fastStart_111 : decode bb_R_fastStart 111 = .ok (.bipush (-2), 2) := by decide +kernel
theorem dc_R_fastStart_113 : decode bb_R_fastStart 113 = .ok (.ireturn, 1) := by decide +kernel
theorem dc_R_fastStart_114 : decode bb_R_fastStart 114 = .ok (.aload_n 0, 1) := by decide +kernel
theorem dc_R_fastStart_115 : decode bb_R_fastStart 115 = .ok (.aload_n 0, 1) := by decide +kernel
theorem dc_R_fastStart_116 : decode bb_R_fastStart 116 = .ok (.getfield 13, 3) := by decide +kernel
theorem dc_R_fastStart_119 : decode bb_R_fastStart 119 = .ok (.iload_n 2, 1) := by decide +kernel
theorem dc_R_fastStart_120 : decode bb_R_fastStart 120 = .ok (.iaload, 1) := by decide +kernel
theorem dc_R_fastStart_121 : decode bb_R_fastStart 121 = .ok (.iload_n 3, 1) := by decide +kernel
theorem dc_R_fastStart_122 : decode bb_R_fastStart 122 = .ok (.iload 4, 2) := by decide +kernel
theorem dc_R_fastStart_124 : decode bb_R_fastStart 124 = .ok (.invokevirtual 177, 3) := by decide +kernel
theorem dc_R_fastStart_127 : decode bb_R_fastStart 127 = .ok (.iload 4, 2) := by decide +kernel
theorem dc_R_fastStart_129 : decode bb_R_fastStart 129 = .ok (.ireturn, 1) := by decide +kernel
theorem dc_R_firstData_0 : decode bb_R_firstData 0 = .ok (.iconst 0, 1) := by decide +kernel
theorem dc_R_firstData_1 : decode bb_R_firstData 1 = .ok (.istore_n 1, 1) := by decide +kernel
theorem dc_R_firstData_2 : decode bb_R_firstData 2 = .ok (.iload_n 1, 1) := by decide +kernel
theorem dc_R_firstData_3 : decode bb_R_firstData 3 = .ok (.aload_n 0, 1) := by decide +kernel
theorem dc_R_firstData_4 : decode bb_R_firstData 4 = .ok (.getfield 64, 3) := by decide +kernel
theorem dc_R_firstData_7 : decode bb_R_firstData 7 = .ok (.if_icmp .ge 31, 3) := by decide +kernel
theorem dc_R_firstData_10 : decode bb_R_firstData 10 = .ok (.aload_n 0, 1) := by decide +kernel
theorem dc_R_firstData_11 : decode bb_R_firstData 11 = .ok (.getfield 25, 3) := by decide +kernel
theorem dc_R_firstData_14 : decode bb_R_firstData 14 = .ok (.iload_n 1, 1) := by decide +kernel
theorem dc_R_firstData_15 : decode bb_R_firstData 15 = .ok (.iaload, 1) := by decide +kernel
theorem dc_R_firstData_16 : decode bb_R_firstData 16 = .ok (.ifCond .ne 16, 3) := by decide +kernel
theorem dc_R_firstData_19 : decode bb_R_firstData 19 = .ok (.aload_n 0, 1) := by decide +kernel
theorem dc_R_firstData_20 : decode bb_R_firstData 20 = .ok (.getfield 19, 3) := by decide +kernel
theorem dc_R_firstData_23 : decode bb_R_firstData 23 = .ok (.iload_n 1, 1) := by decide +kernel
theorem dc_R_firstData_24 : decode bb_R_firstData 24 = .ok (.iaload, 1) := by decide +kernel
theorem dc_R_firstData_25 : decode bb_R_firstData 25 = .ok (.bipush 68, 2) := by decide +kernel
theorem dc_R_firstData_27 : decode bb_R_firstData 27 = .ok (.if_icmp .ne 5, 3) := by decide +kernel
theorem dc_R_firstData_30 : decode bb_R_firstData 30 = .ok (.iload_n 1, 1) := by decide +kernel
theorem dc_R_firstData_31 : decode bb_R_firstData 31 = .ok (.ireturn, 1) := by decide +kernel
theorem dc_R_firstData_32 : decode bb_R_firstData 32 = .ok (.iinc 1 1, 3) := by decide +kernel
theorem dc_R_firstData_35 : decode bb_R_firstData 35 = .ok (.goto (-33), 3) := by decide +kernel
theorem dc_R_firstData_38 : decode bb_R_firstData 38 = .ok (.iconst (-1), 1) := by decide +kernel
theorem dc_R_firstData_39 : decode bb_R_firstData 39 = .ok (.ireturn, 1) := by decide +kernel
theorem dc_R_layout_0 : decode bb_R_layout 0 = .ok (.iconst 0, 1) := by decide +kernel
theorem dc_R_layout_1 : decode bb_R_layout 1 = .ok (.istore_n 2, 1) := by decide +kernel
theorem dc_R_layout_2 : decode bb_R_layout 2 = .ok (.iload_n 2, 1) := by decide +kernel
theorem dc_R_layout_3 : decode bb_R_layout 3 = .ok (.aload_n 0, 1) := by decide +kernel
theorem dc_R_layout_4 : decode bb_R_layout 4 = .ok (.getfield 64, 3) := by decide +kernel
theorem dc_R_layout_7 : decode bb_R_layout 7 = .ok (.if_icmp .ge 16, 3) := by decide +kernel
theorem dc_R_layout_10 : decode bb_R_layout 10 = .ok (.aload_n 0, 1) := by decide +kernel
theorem dc_R_layout_11 : decode bb_R_layout 11 = .ok (.getfield 52, 3) := by decide +kernel
theorem dc_R_layout_14 : decode bb_R_layout 14 = .ok (.iload_n 2, 1) := by decide +kernel
theorem dc_R_layout_15 : decode bb_R_layout 15 = .ok (.iconst 0, 1) := by decide +kernel
theorem dc_R_layout_16 : decode bb_R_layout 16 = .ok (.iastore, 1) := by decide +kernel
theorem dc_R_layout_17 : decode bb_R_layout 17 = .ok (.iinc 2 1, 3) := by decide +kernel
theorem dc_R_layout_20 : decode bb_R_layout 20 = .ok (.goto (-18), 3) := by decide +kernel
theorem dc_R_layout_23 : decode bb_R_layout 23 = .ok (.aload_n 0, 1) := by decide +kernel
theorem dc_R_layout_24 : decode bb_R_layout 24 = .ok (.getfield 64, 3) := by decide +kernel
theorem dc_R_layout_27 : decode bb_R_layout 27 = .ok (.iconst 1, 1) := by decide +kernel
theorem dc_R_layout_28 : decode bb_R_layout 28 = .ok (.isub, 1) := by decide +kernel
theorem dc_R_layout_29 : decode bb_R_layout 29 = .ok (.istore_n 2, 1) := by decide +kernel
theorem dc_R_layout_30 : decode bb_R_layout 30 = .ok (.iload_n 2, 1) := by decide +kernel
theorem dc_R_layout_31 : decode bb_R_layout 31 = .ok (.aload_n 0, 1) := by decide +kernel
theorem dc_R_layout_32 : decode bb_R_layout 32 = .ok (.getfield 96, 3) := by decide +kernel
theorem dc_R_layout_35 : decode bb_R_layout 35 = .ok (.if_icmp .lt 202, 3) := by decide +kernel
theorem dc_R_layout_38 : decode bb_R_layout 38 = .ok (.iload_n 2, 1) := by decide +kernel
theorem dc_R_layout_39 : decode bb_R_layout 39 = .ok (.aload_n 0, 1) := by decide +kernel
theorem dc_R_layout_40 : decode bb_R_layout 40 = .ok (.getfield 96, 3) := by decide +kernel
theorem dc_R_layout_43 : decode bb_R_layout 43 = .ok (.if_icmp .eq 12, 3) := by decide +kernel
theorem dc_R_layout_46 : decode bb_R_layout 46 = .ok (.aload_n 0, 1) := by decide +kernel
theorem dc_R_layout_47 : decode bb_R_layout 47 = .ok (.getfield 25, 3) := by decide +kernel
theorem dc_R_layout_50 : decode bb_R_layout 50 = .ok (.iload_n 2, 1) := by decide +kernel
theorem dc_R_layout_51 : decode bb_R_layout 51 = .ok (.iaload, 1) := by decide +kernel
theorem dc_R_layout_52 : decode bb_R_layout 52 = .ok (.ifCond .le 179, 3) := by decide +kernel
theorem dc_R_layout_55 : decode bb_R_layout 55 = .ok (.aload_n 0, 1) := by decide +kernel
theorem dc_R_layout_56 : decode bb_R_layout 56 = .ok (.iload_n 2, 1) := by decide +kernel
theorem dc_R_layout_57 : decode bb_R_layout 57 = .ok (.invokevirtual 71, 3) := by decide +kernel
theorem dc_R_layout_60 : decode bb_R_layout 60 = .ok (.ifCond .eq 12, 3) := by decide +kernel
theorem dc_R_layout_63 : decode bb_R_layout 63 = .ok (.aload_n 0, 1) := by decide +kernel
theorem dc_R_layout_64 : decode bb_R_layout 64 = .ok (.getfield 52, 3) := by decide +kernel
theorem dc_R_layout_67 : decode bb_R_layout 67 = .ok (.iload_n 2, 1) := by decide +kernel
theorem dc_R_layout_68 : decode bb_R_layout 68 = .ok (.iaload, 1) := by decide +kernel
theorem dc_R_layout_69 : decode bb_R_layout 69 = .ok (.goto 8, 3) := by decide +kernel
theorem dc_R_layout_72 : decode bb_R_layout 72 = .ok (.aload_n 0, 1) := by decide +kernel
theorem dc_R_layout_73 : decode bb_R_layout 73 = .ok (.iload_n 2, 1) := by decide +kernel
theorem dc_R_layout_74 : decode bb_R_layout 74 = .ok (.invokevirtual 103, 3) := by decide +kernel
theorem dc_R_layout_77 : decode bb_R_layout 77 = .ok (.istore_n 3, 1) := by decide +kernel
theorem dc_R_layout_78 : decode bb_R_layout 78 = .ok (.iconst 0, 1) := by decide +kernel
theorem dc_R_layout_79 : decode bb_R_layout 79 = .ok (.istore 4, 2) := by decide +kernel
theorem dc_R_layout_81 : decode bb_R_layout 81 = .ok (.iload 4, 2) := by decide +kernel
theorem dc_R_layout_83 : decode bb_R_layout 83 = .ok (.aload_n 0, 1) := by decide +kernel
theorem dc_R_layout_84 : decode bb_R_layout 84 = .ok (.getfield 83, 3) := by decide +kernel
theorem dc_R_layout_87 : decode bb_R_layout 87 = .ok (.if_icmp .ge 62, 3) := by decide +kernel
theorem dc_R_layout_90 : decode bb_R_layout 90 = .ok (.iload_n 1, 1) := by decide +kernel
theorem dc_R_layout_91 : decode bb_R_layout 91 = .ok (.iload 4, 2) := by decide +kernel
theorem dc_R_layout_93 : decode bb_R_layout 93 = .ok (.ishr, 1) := by decide +kernel
theorem dc_R_layout_94 : decode bb_R_layout 94 = .ok (.iconst 1, 1) := by decide +kernel
theorem dc_R_layout_95 : decode bb_R_layout 95 = .ok (.iand, 1) := by decide +kernel
theorem dc_R_layout_96 : decode bb_R_layout 96 = .ok (.iconst 1, 1) := by decide +kernel
theorem dc_R_layout_97 : decode bb_R_layout 97 = .ok (.if_icmp .ne 23, 3) := by decide +kernel
theorem dc_R_layout_100 : decode bb_R_layout 100 = .ok (.aload_n 0, 1) := by decide +kernel
theorem dc_R_layout_101 : decode bb_R_layout 101 = .ok (.getfield 40, 3) := by decide +kernel
theorem dc_R_layout_104 : decode bb_R_layout 104 = .ok (.bipush 8, 2) := by decide +kernel
theorem dc_R_layout_106 : decode bb_R_layout 106 = .ok (.iload 4, 2) := by decide +kernel
theorem dc_R_layout_108 : decode bb_R_layout 108 = .ok (.imul, 1) := by decide +kernel
theorem dc_R_layout_109 : decode bb_R_layout 109 = .ok (.iconst 4, 1) := by decide +kernel
theorem dc_R_layout_110 : decode bb_R_layout 110 = .ok (.iadd, 1) := by decide +kernel
theorem dc_R_layout_111 : decode bb_R_layout 111 = .ok (.iaload, 1) := by decide +kernel
theorem dc_R_layout_112 : decode bb_R_layout 112 = .ok (.iload_n 2, 1) := by decide +kernel
theorem dc_R_layout_113 : decode bb_R_layout 113 = .ok (.if_icmp .ne 7, 3) := by decide +kernel
theorem dc_R_layout_116 : decode bb_R_layout 116 = .ok (.iconst 1, 1) := by decide +kernel
theorem dc_R_layout_117 : decode bb_R_layout 117 = .ok (.goto 4, 3) := by decide +kernel
theorem dc_R_layout_120 : decode bb_R_layout 120 = .ok (.iconst 0, 1) := by decide +kernel
theorem dc_R_layout_121 : decode bb_R_layout 121 = .ok (.istore 5, 2) := by decide +kernel
theorem dc_R_layout_123 : decode bb_R_layout 123 = .ok (.iload 5, 2) := by decide +kernel
theorem dc_R_layout_125 : decode bb_R_layout 125 = .ok (.ifCond .eq 16, 3) := by decide +kernel
theorem dc_R_layout_128 : decode bb_R_layout 128 = .ok (.iconst 1, 1) := by decide +kernel
theorem dc_R_layout_129 : decode bb_R_layout 129 = .ok (.iconst 2, 1) := by decide +kernel
theorem dc_R_layout_130 : decode bb_R_layout 130 = .ok (.aload_n 0, 1) := by decide +kernel
theorem dc_R_layout_131 : decode bb_R_layout 131 = .ok (.iload_n 2, 1) := by decide +kernel
theorem dc_R_layout_132 : decode bb_R_layout 132 = .ok (.iconst 0, 1) := by decide +kernel
theorem dc_R_layout_133 : decode bb_R_layout 133 = .ok (.invokevirtual 106, 3) := by decide +kernel
theorem dc_R_layout_136 : decode bb_R_layout 136 = .ok (.imul, 1) := by decide +kernel
theorem dc_R_layout_137 : decode bb_R_layout 137 = .ok (.iadd, 1) := by decide +kernel
theorem dc_R_layout_138 : decode bb_R_layout 138 = .ok (.goto 4, 3) := by decide +kernel
theorem dc_R_layout_141 : decode bb_R_layout 141 = .ok (.iload_n 3, 1) := by decide +kernel
theorem dc_R_layout_142 : decode bb_R_layout 142 = .ok (.istore_n 3, 1) := by decide +kernel
theorem dc_R_layout_143 : decode bb_R_layout 143 = .ok (.iinc 4 1, 3) := by decide +kernel
theorem dc_R_layout_146 : decode bb_R_layout 146 = .ok (.goto (-65), 3) := by decide +kernel
theorem dc_R_layout_149 : decode bb_R_layout 149 = .ok (.aload_n 0, 1) := by decide +kernel
theorem dc_R_layout_150 : decode bb_R_layout 150 = .ok (.getfield 46, 3) := by decide +kernel
theorem dc_R_layout_153 : decode bb_R_layout 153 = .ok (.iload_n 2, 1) := by decide +kernel
theorem dc_R_layout_154 : decode bb_R_layout 154 = .ok (.aload_n 0, 1) := by decide +kernel
theorem dc_R_layout_155 : decode bb_R_layout 155 = .ok (.getfield 22, 3) := by decide +kernel
theorem dc_R_layout_158 : decode bb_R_layout 158 = .ok (.iload_n 2, 1) := by decide +kernel
theorem dc_R_layout_159 : decode bb_R_layout 159 = .ok (.iaload, 1) := by decide +kernel
theorem dc_R_layout_160 : decode bb_R_layout 160 = .ok (.iconst 4, 1) := by decide +kernel
theorem dc_R_layout_161 : decode bb_R_layout 161 = .ok (.if_icmp .eq 12, 3) := by decide +kernel
theorem dc_R_layout_164 : decode bb_R_layout 164 = .ok (.iload_n 3, 1) := by decide +kernel
theorem dc_R_layout_165 : decode bb_R_layout 165 = .ok (.iconst 2, 1) := by decide +kernel
theorem dc_R_layout_166 : decode bb_R_layout 166 = .ok (.iadd, 1) := by decide +kernel
theorem dc_R_layout_167 : decode bb_R_layout 167 = .ok (.sipush 255, 3) := by decide +kernel
theorem dc_R_layout_170 : decode bb_R_layout 170 = .ok (.if_icmp .le 7, 3) := by decide +kernel
theorem dc_R_layout_173 : decode bb_R_layout 173 = .ok (.iconst 4, 1) := by decide +kernel
theorem dc_R_layout_174 : decode bb_R_layout 174 = .ok (.goto 4, 3) := by decide +kernel
theorem dc_R_layout_177 : decode bb_R_layout 177 = .ok (.iconst 2, 1) := by decide +kernel
theorem dc_R_layout_178 : decode bb_R_layout 178 = .ok (.iastore, 1) := by decide +kernel
theorem dc_R_layout_179 : decode bb_R_layout 179 = .ok (.aload_n 0, 1) := by decide +kernel
theorem dc_R_layout_180 : decode bb_R_layout 180 = .ok (.getfield 49, 3) := by decide +kernel
theorem dc_R_layout_183 : decode bb_R_layout 183 = .ok (.iload_n 2, 1) := by decide +kernel
theorem dc_R_layout_184 : decode bb_R_layout 184 = .ok (.aload_n 0, 1) := by decide +kernel
theorem dc_R_layout_185 : decode bb_R_layout 185 = .ok (.getfield 46, 3) := by decide +kernel
theorem dc_R_layout_188 : decode bb_R_layout 188 = .ok (.iload_n 2, 1) := by decide +kernel
theorem dc_R_layout_189 : decode bb_R_layout 189 = .ok (.iaload, 1) := by decide +kernel
theorem dc_R_layout_190 : decode bb_R_layout 190 = .ok (.iload_n 3, 1) := by decide +kernel
theorem dc_R_layout_191 : decode bb_R_layout 191 = .ok (.iadd, 1) := by decide +kernel
theorem dc_R_layout_192 : decode bb_R_layout 192 = .ok (.iastore, 1) := by decide +kernel
theorem dc_R_layout_193 : decode bb_R_layout 193 = .ok (.aload_n 0, 1) := by decide +kernel
theorem dc_R_layout_194 : decode bb_R_layout 194 = .ok (.getfield 28, 3) := by decide +kernel
theorem dc_R_layout_197 : decode bb_R_layout 197 = .ok (.iload_n 2, 1) := by decide +kernel
theorem dc_R_layout_198 : decode bb_R_layout 198 = .ok (.iaload, 1) := by decide +kernel
theorem dc_R_layout_199 : decode bb_R_layout 199 = .ok (.ifCond .lt 32, 3) := by decide +kernel
theorem dc_R_layout_202 : decode bb_R_layout 202 = .ok (.aload_n 0, 1) := by decide +kernel
theorem dc_R_layout_203 : decode bb_R_layout 203 = .ok (.getfield 52, 3) := by decide +kernel
theorem dc_R_layout_206 : decode bb_R_layout 206 = .ok (.aload_n 0, 1) := by decide +kernel
theorem dc_R_layout_207 : decode bb_R_layout 207 = .ok (.getfield 28, 3) := by decide +kernel
theorem dc_R_layout_210 : decode bb_R_layout 210 = .ok (.iload_n 2, 1) := by decide +kernel
theorem dc_R_layout_211 : decode bb_R_layout 211 = .ok (.iaload, 1) := by decide +kernel
theorem dc_R_layout_212 : decode bb_R_layout 212 = .ok (.aload_n 0, 1) := by decide +kernel
theorem dc_R_layout_213 : decode bb_R_layout 213 = .ok (.getfield 52, 3) := by decide +kernel
theorem dc_R_layout_216 : decode bb_R_layout 216 = .ok (.aload_n 0, 1) := by decide +kernel
theorem dc_R_layout_217 : decode bb_R_layout 217 = .ok (.getfield 28, 3) := by decide +kernel
theorem dc_R_layout_220 : decode bb_R_layout 220 = .ok (.iload_n 2, 1) := by decide +kernel
theorem dc_R_layout_221 : decode bb_R_layout 221 = .ok (.iaload, 1) := by decide +kernel
theorem dc_R_layout_222 : decode bb_R_layout 222 = .ok (.iaload, 1) := by decide +kernel
theorem dc_R_layout_223 : decode bb_R_layout 223 = .ok (.aload_n 0, 1) := by decide +kernel
theorem dc_R_layout_224 : decode bb_R_layout 224 = .ok (.getfield 49, 3) := by decide +kernel
theorem dc_R_layout_227 : decode bb_R_layout 227 = .ok (.iload_n 2, 1) := by decide +kernel
theorem dc_R_layout_228 : decode bb_R_layout 228 = .ok (.iaload, 1) := by decide +kernel
theorem dc_R_layout_229 : decode bb_R_layout 229 = .ok (.iadd, 1) := by decide +kernel
theorem dc_R_layout_230 : decode bb_R_layout 230 = .ok (.iastore, 1) := by decide +kernel
theorem dc_R_layout_231 : decode bb_R_layout 231 = .ok (.iinc 2 (-1), 3) := by decide +kernel
theorem dc_R_layout_234 : decode bb_R_layout 234 = .ok (.goto (-204), 3) := by decide +kernel
theorem dc_R_layout_237 : decode bb_R_layout 237 = .ok (.aload_n 0, 1) := by decide +kernel
theorem dc_R_layout_238 : decode bb_R_layout 238 = .ok (.getfield 49, 3) := by decide +kernel
theorem dc_R_layout_241 : decode bb_R_layout 241 = .ok (.aload_n 0, 1) := by decide +kernel
theorem dc_R_layout_242 : decode bb_R_layout 242 = .ok (.getfield 96, 3) := by decide +kernel
theorem dc_R_layout_245 : decode bb_R_layout 245 = .ok (.iaload, 1) := by decide +kernel
theorem dc_R_layout_246 : decode bb_R_layout 246 = .ok (.ireturn, 1) := by decide +kernel
theorem dc_R_tooNarrow_0 : decode bb_R_tooNarrow 0 = .ok (.iconst 0, 1) := by decide +kernel
theorem dc_R_tooNarrow_1 : decode bb_R_tooNarrow 1 = .ok (.istore_n 2, 1) := by decide +kernel
theorem dc_R_tooNarrow_2 : decode bb_R_tooNarrow 2 = .ok (.iconst 0, 1) := by decide +kernel
theorem dc_R_tooNarrow_3 : decode bb_R_tooNarrow 3 = .ok (.istore_n 3, 1) := by decide +kernel
theorem dc_R_tooNarrow_4 : decode bb_R_tooNarrow 4 = .ok (.iload_n 3, 1) := by decide +kernel
theorem dc_R_tooNarrow_5 : decode bb_R_tooNarrow 5 = .ok (.aload_n 0, 1) := by decide +kernel
theorem dc_R_tooNarrow_6 : decode bb_R_tooNarrow 6 = .ok (.getfield 83, 3) := by decide +kernel
theorem dc_R_tooNarrow_9 : decode bb_R_tooNarrow 9 = .ok (.if_icmp .ge 74, 3) := by decide +kernel
theorem dc_R_tooNarrow_12 : decode bb_R_tooNarrow 12 = .ok (.aload_n 0, 1) := by decide +kernel
theorem dc_R_tooNarrow_13 : decode bb_R_tooNarrow 13 = .ok (.getfield 40, 3) := by decide +kernel
theorem dc_R_tooNarrow_16 : decode bb_R_tooNarrow 16 = .ok (.bipush 8, 2) := by decide +kernel
theorem dc_R_tooNarrow_18 : decode bb_R_tooNarrow 18 = .ok (.iload_n 3, 1) := by decide +kernel
theorem dc_R_tooNarrow_19 : decode bb_R_tooNarrow 19 = .ok (.imul, 1) := by decide +kernel
theorem dc_R_tooNarrow_20 : decode bb_R_tooNarrow 20 = .ok (.iconst 4, 1) := by decide +kernel
theorem dc_R_tooNarrow_21 : decode bb_R_tooNarrow 21 = .ok (.iadd, 1) := by decide +kernel
theorem dc_R_tooNarrow_22 : decode bb_R_tooNarrow 22 = .ok (.iaload, 1) := by decide +kernel
theorem dc_R_tooNarrow_23 : decode bb_R_tooNarrow 23 = .ok (.ifCond .lt 11, 3) := by decide +kernel
theorem dc_R_tooNarrow_26 : decode bb_R_tooNarrow 26 = .ok (.aload_n 0, 1) := by decide +kernel
theorem dc_R_tooNarrow_27 : decode bb_R_tooNarrow 27 = .ok (.iload_n 3, 1) := by decide +kernel
theorem dc_R_tooNarrow_28 : decode bb_R_tooNarrow 28 = .ok (.invokevirtual 116, 3) := by decide +kernel
theorem dc_R_tooNarrow_31 : decode bb_R_tooNarrow 31 = .ok (.goto 4, 3) := by decide +kernel
theorem dc_R_tooNarrow_34 : decode bb_R_tooNarrow 34 = .ok (.iconst 0, 1) := by decide +kernel
theorem dc_R_tooNarrow_35 : decode bb_R_tooNarrow 35 = .ok (.istore 4, 2) := by decide +kernel
theorem dc_R_tooNarrow_37 : decode bb_R_tooNarrow 37 = .ok (.iconst 1, 1) := by decide +kernel
theorem dc_R_tooNarrow_38 : decode bb_R_tooNarrow 38 = .ok (.istore 5, 2) := by decide +kernel
theorem dc_R_tooNarrow_40 : decode bb_R_tooNarrow 40 = .ok (.iload 5, 2) := by decide +kernel
theorem dc_R_tooNarrow_42 : decode bb_R_tooNarrow 42 = .ok (.iload 4, 2) := by decide +kernel
theorem dc_R_tooNarrow_44 : decode bb_R_tooNarrow 44 = .ok (.if_icmp .gt 33, 3) := by decide +kernel
theorem dc_R_tooNarrow_47 : decode bb_R_tooNarrow 47 = .ok (.aload_n 0, 1) := by decide +kernel
theorem dc_R_tooNarrow_48 : decode bb_R_tooNarrow 48 = .ok (.iload_n 3, 1) := by decide +kernel
theorem dc_R_tooNarrow_49 : decode bb_R_tooNarrow 49 = .ok (.iload 5, 2) := by decide +kernel
theorem dc_R_tooNarrow_51 : decode bb_R_tooNarrow 51 = .ok (.iload_n 1, 1) := by decide +kernel
theorem dc_R_tooNarrow_52 : decode bb_R_tooNarrow 52 = .ok (.invokevirtual 165, 3) := by decide +kernel
theorem dc_R_tooNarrow_55 : decode bb_R_tooNarrow 55 = .ok (.sipush 255, 3) := by decide +kernel
theorem dc_R_tooNarrow_58 : decode bb_R_tooNarrow 58 = .ok (.if_icmp .le 11, 3) := by decide +kernel
theorem dc_R_tooNarrow_61 : decode bb_R_tooNarrow 61 = .ok (.iload_n 2, 1) := by decide +kernel
theorem dc_R_tooNarrow_62 : decode bb_R_tooNarrow 62 = .ok (.iconst 1, 1) := by decide +kernel
theorem dc_R_tooNarrow_63 : decode bb_R_tooNarrow 63 = .ok (.iload_n 3, 1) := by decide +kernel
theorem dc_R_tooNarrow_64 : decode bb_R_tooNarrow 64 = .ok (.ishl, 1) := by decide +kernel
theorem dc_R_tooNarrow_65 : decode bb_R_tooNarrow 65 = .ok (.ior, 1) := by decide +kernel
theorem dc_R_tooNarrow_66 : decode bb_R_tooNarrow 66 = .ok (.goto 4, 3) := by decide +kernel
theorem dc_R_tooNarrow_69 : decode bb_R_tooNarrow 69 = .ok (.iload_n 2, 1) := by decide +kernel
theorem dc_R_tooNarrow_70 : decode bb_R_tooNarrow 70 = .ok (.istore_n 2, 1) := by decide +kernel
theorem dc_R_tooNarrow_71 : decode bb_R_tooNarrow 71 = .ok (.iinc 5 1, 3) := by decide +kernel
theorem dc_R_tooNarrow_74 : decode bb_R_tooNarrow 74 = .ok (.goto (-34), 3) := by decide +kernel
theorem dc_R_tooNarrow_77 : decode bb_R_tooNarrow 77 = .ok (.iinc 3 1, 3) := by decide +kernel
theorem dc_R_tooNarrow_80 : decode bb_R_tooNarrow 80 = .ok (.goto (-76), 3) := by decide +kernel
theorem dc_R_tooNarrow_83 : decode bb_R_tooNarrow 83 = .ok (.iload_n 2, 1) := by decide +kernel
theorem dc_R_tooNarrow_84 : decode bb_R_tooNarrow 84 = .ok (.ireturn, 1) := by decide +kernel
theorem dc_R_newPlace_0 : decode bb_R_newPlace 0 = .ok (.aload_n 0, 1) := by decide +kernel
theorem dc_R_newPlace_1 : decode bb_R_newPlace 1 = .ok (.getfield 43, 3) := by decide +kernel
theorem dc_R_newPlace_4 : decode bb_R_newPlace 4 = .ok (.sipush 256, 3) := by decide +kernel
theorem dc_R_newPlace_7 : decode bb_R_newPlace 7 = .ok (.iload_n 1, 1) := by decide +kernel
theorem dc_R_newPlace_8 : decode bb_R_newPlace 8 = .ok (.imul, 1) := by decide +kernel
theorem dc_R_newPlace_9 : decode bb_R_newPlace 9 = .ok (.iload_n 2, 1) := by decide +kernel
theorem dc_R_newPlace_10 : decode bb_R_newPlace 10 = .ok (.iadd, 1) := by decide +kernel
theorem dc_R_newPlace_11 : decode bb_R_newPlace 11 = .ok (.iaload, 1) := by decide +kernel
theorem dc_R_newPlace_12 : decode bb_R_newPlace 12 = .ok (.istore 4, 2) := by decide +kernel
theorem dc_R_newPlace_14 : decode bb_R_newPlace 14 = .ok (.aload_n 0, 1) := by decide +kernel
theorem dc_R_newPlace_15 : decode bb_R_newPlace 15 = .ok (.iload_n 1, 1) := by decide +kernel
theorem dc_R_newPlace_16 : decode bb_R_newPlace 16 = .ok (.iload_n 2, 1) := by decide +kernel
theorem dc_R_newPlace_17 : decode bb_R_newPlace 17 = .ok (.invokevirtual 131, 3) := by decide +kernel
theorem dc_R_newPlace_20 : decode bb_R_newPlace 20 = .ok (.istore 5, 2) := by decide +kernel
theorem dc_R_newPlace_22 : decode bb_R_newPlace 22 = .ok (.aload_n 0, 1) := by decide +kernel
theorem dc_R_newPlace_23 : decode bb_R_newPlace 23 = .ok (.getfield 13, 3) := by decide +kernel
theorem dc_R_newPlace_26 : decode bb_R_newPlace 26 = .ok (.iload 4, 2) := by decide +kernel
theorem dc_R_newPlace_28 : decode bb_R_newPlace 28 = .ok (.iaload, 1) := by decide +kernel
theorem dc_R_newPlace_29 : decode bb_R_newPlace 29 = .ok (.aload_n 0, 1) := by decide +kernel
theorem dc_R_newPlace_30 : decode bb_R_newPlace 30 = .ok (.getfield 13, 3) := by decide +kernel
theorem dc_R_newPlace_33 : decode bb_R_newPlace 33 = .ok (.aload_n 0, 1) := by decide +kernel
theorem dc_R_newPlace_34 : decode bb_R_newPlace 34 = .ok (.getfield 96, 3) := by decide +kernel
theorem dc_R_newPlace_37 : decode bb_R_newPlace 37 = .ok (.iaload, 1) := by decide +kernel
theorem dc_R_newPlace_38 : decode bb_R_newPlace 38 = .ok (.if_icmp .ge 10, 3) := by decide +kernel
theorem dc_R_newPlace_41 : decode bb_R_newPlace 41 = .ok (.iload 5, 2) := by decide +kernel
theorem dc_R_newPlace_43 : decode bb_R_newPlace 43 = .ok (.iload_n 3, 1) := by decide +kernel
theorem dc_R_newPlace_44 : decode bb_R_newPlace 44 = .ok (.iadd, 1) := by decide +kernel
theorem dc_R_newPlace_45 : decode bb_R_newPlace 45 = .ok (.goto 17, 3) := by decide +kernel
theorem dc_R_newPlace_48 : decode bb_R_newPlace 48 = .ok (.iload 5, 2) := by decide +kernel
theorem dc_R_newPlace_50 : decode bb_R_newPlace 50 = .ok (.iload_n 3, 1) := by decide +kernel
theorem dc_R_newPlace_51 : decode bb_R_newPlace 51 = .ok (.iadd, 1) := by decide +kernel
theorem dc_R_newPlace_52 : decode bb_R_newPlace 52 = .ok (.aload_n 0, 1) := by decide +kernel
theorem dc_R_newPlace_53 : decode bb_R_newPlace 53 = .ok (.getfield 16, 3) := by decide +kernel
theorem dc_R_newPlace_56 : decode bb_R_newPlace 56 = .ok (.aload_n 0, 1) := by decide +kernel
theorem dc_R_newPlace_57 : decode bb_R_newPlace 57 = .ok (.getfield 96, 3) := by decide +kernel
theorem dc_R_newPlace_60 : decode bb_R_newPlace 60 = .ok (.iaload, 1) := by decide +kernel
theorem dc_R_newPlace_61 : decode bb_R_newPlace 61 = .ok (.isub, 1) := by decide +kernel
theorem dc_R_newPlace_62 : decode bb_R_newPlace 62 = .ok (.ireturn, 1) := by decide +kernel
theorem dc_R_write_0 : decode bb_R_write 0 = .ok (.aload_n 0, 1) := by decide +kernel
theorem dc_R_write_1 : decode bb_R_write 1 = .ok (.iconst 0, 1) := by decide +kernel
theorem dc_R_write_2 : decode bb_R_write 2 = .ok (.putfield 181, 3) := by decide +kernel
theorem dc_R_write_5 : decode bb_R_write 5 = .ok (.iconst 0, 1) := by decide +kernel
theorem dc_R_write_6 : decode bb_R_write 6 = .ok (.istore 4, 2) := by decide +kernel
theorem dc_R_write_8 : decode bb_R_write 8 = .ok (.iload 4, 2) := by decide +kernel
theorem dc_R_write_10 : decode bb_R_write 10 = .ok (.iload_n 1, 1) := by decide +kernel
theorem dc_R_write_11 : decode bb_R_write 11 = .ok (.if_icmp .ge 20, 3) := by decide +kernel
theorem dc_R_write_14 : decode bb_R_write 14 = .ok (.aload_n 0, 1) := by decide +kernel
theorem dc_R_write_15 : decode bb_R_write 15 = .ok (.aload_n 0, 1) := by decide +kernel
theorem dc_R_write_16 : decode bb_R_write 16 = .ok (.getfield 7, 3) := by decide +kernel
theorem dc_R_write_19 : decode bb_R_write 19 = .ok (.iload 4, 2) := by decide +kernel
theorem dc_R_write_21 : decode bb_R_write 21 = .ok (.iaload, 1) := by decide +kernel
theorem dc_R_write_22 : decode bb_R_write 22 = .ok (.invokevirtual 184, 3) := by decide +kernel
theorem dc_R_write_25 : decode bb_R_write 25 = .ok (.iinc 4 1, 3) := by decide +kernel
theorem dc_R_write_28 : decode bb_R_write 28 = .ok (.goto (-20), 3) := by decide +kernel
theorem dc_R_write_31 : decode bb_R_write 31 = .ok (.iconst 0, 1) := by decide +kernel
theorem dc_R_write_32 : decode bb_R_write 32 = .ok (.istore 4, 2) := by decide +kernel
theorem dc_R_write_34 : decode bb_R_write 34 = .ok (.iload 4, 2) := by decide +kernel
theorem dc_R_write_36 : decode bb_R_write 36 = .ok (.aload_n 0, 1) := by decide +kernel
theorem dc_R_write_37 : decode bb_R_write 37 = .ok (.getfield 64, 3) := by decide +kernel
theorem dc_R_write_40 : decode bb_R_write 40 = .ok (.if_icmp .ge 36, 3) := by decide +kernel
theorem dc_R_write_43 : decode bb_R_write 43 = .ok (.iload 4, 2) := by decide +kernel
theorem dc_R_write_45 : decode bb_R_write 45 = .ok (.aload_n 0, 1) := by decide +kernel
theorem dc_R_write_46 : decode bb_R_write 46 = .ok (.getfield 96, 3) := by decide +kernel
theorem dc_R_write_49 : decode bb_R_write 49 = .ok (.if_icmp .eq 13, 3) := by decide +kernel
theorem dc_R_write_52 : decode bb_R_write 52 = .ok (.aload_n 0, 1) := by decide +kernel
theorem dc_R_write_53 : decode bb_R_write 53 = .ok (.getfield 25, 3) := by decide +kernel
theorem dc_R_write_56 : decode bb_R_write 56 = .ok (.iload 4, 2) := by decide +kernel
theorem dc_R_write_58 : decode bb_R_write 58 = .ok (.iaload, 1) := by decide +kernel
theorem dc_R_write_59 : decode bb_R_write 59 = .ok (.ifCond .le 11, 3) := by decide +kernel
theorem dc_R_write_62 : decode bb_R_write 62 = .ok (.aload_n 0, 1) := by decide +kernel
theorem dc_R_write_63 : decode bb_R_write 63 = .ok (.iload 4, 2) := by decide +kernel
theorem dc_R_write_65 : decode bb_R_write 65 = .ok (.iload_n 2, 1) := by decide +kernel
theorem dc_R_write_66 : decode bb_R_write 66 = .ok (.iload_n 3, 1) := by decide +kernel
theorem dc_R_write_67 : decode bb_R_write 67 = .ok (.invokevirtual 188, 3) := by decide +kernel
theorem dc_R_write_70 : decode bb_R_write 70 = .ok (.iinc 4 1, 3) := by decide +kernel
theorem dc_R_write_73 : decode bb_R_write 73 = .ok (.goto (-39), 3) := by decide +kernel
theorem dc_R_write_76 : decode bb_R_write 76 = .ok (.iload_n 1, 1) := by decide +kernel
theorem dc_R_write_77 : decode bb_R_write 77 = .ok (.istore 4, 2) := by decide +kernel
theorem dc_R_write_79 : decode bb_R_write 79 = .ok (.iload 4, 2) := by decide +kernel
theorem dc_R_write_81 : decode bb_R_write 81 = .ok (.aload_n 0, 1) := by decide +kernel
theorem dc_R_write_82 : decode bb_R_write 82 = .ok (.getfield 58, 3) := by decide +kernel
theorem dc_R_write_85 : decode bb_R_write 85 = .ok (.if_icmp .ge 58, 3) := by decide +kernel
theorem dc_R_write_88 : decode bb_R_write 88 = .ok (.iload 4, 2) := by decide +kernel
theorem dc_R_write_90 : decode bb_R_write 90 = .ok (.aload_n 0, 1) := by decide +kernel
theorem dc_R_write_91 : decode bb_R_write 91 = .ok (.getfield 13, 3) := by decide +kernel
theorem dc_R_write_94 : decode bb_R_write 94 = .ok (.aload_n 0, 1) := by decide +kernel
theorem dc_R_write_95 : decode bb_R_write 95 = .ok (.getfield 96, 3) := by decide +kernel
theorem dc_R_write_98 : decode bb_R_write 98 = .ok (.iaload, 1) := by decide +kernel
theorem dc_R_write_99 : decode bb_R_write 99 = .ok (.if_icmp .lt 27, 3) := by decide +kernel
theorem dc_R_write_102 : decode bb_R_write 102 = .ok (.iload 4, 2) := by decide +kernel
theorem dc_R_write_104 : decode bb_R_write 104 = .ok (.aload_n 0, 1) := by decide +kernel
theorem dc_R_write_105 : decode bb_R_write 105 = .ok (.getfield 13, 3) := by decide +kernel
theorem dc_R_write_108 : decode bb_R_write 108 = .ok (.aload_n 0, 1) := by decide +kernel
theorem dc_R_write_109 : decode bb_R_write 109 = .ok (.getfield 96, 3) := by decide +kernel
theorem dc_R_write_112 : decode bb_R_write 112 = .ok (.iaload, 1) := by decide +kernel
theorem dc_R_write_113 : decode bb_R_write 113 = .ok (.aload_n 0, 1) := by decide +kernel
theorem dc_R_write_114 : decode bb_R_write 114 = .ok (.getfield 16, 3) := by decide +kernel
theorem dc_R_write_117 : decode bb_R_write 117 = .ok (.aload_n 0, 1) := by decide +kernel
theorem dc_R_write_118 : decode bb_R_write 118 = .ok (.getfield 96, 3) := by decide +kernel
theorem dc_R_write_121 : decode bb_R_write 121 = .ok (.iaload, 1) := by decide +kernel
theorem dc_R_write_122 : decode bb_R_write 122 = .ok (.iadd, 1) := by decide +kernel
theorem dc_R_write_123 : decode bb_R_write 123 = .ok (.if_icmp .lt 14, 3) := by decide +kernel
theorem dc_R_write_126 : decode bb_R_write 126 = .ok (.aload_n 0, 1) := by decide +kernel
theorem dc_R_write_127 : decode bb_R_write 127 = .ok (.aload_n 0, 1) := by decide +kernel
theorem dc_R_write_128 : decode bb_R_write 128 = .ok (.getfield 7, 3) := by decide +kernel
theorem dc_R_write_131 : decode bb_R_write 131 = .ok (.iload 4, 2) := by decide +kernel
theorem dc_R_write_133 : decode bb_R_write 133 = .ok (.iaload, 1) := by decide +kernel
theorem dc_R_write_134 : decode bb_R_write 134 = .ok (.invokevirtual 184, 3) := by decide +kernel
theorem dc_R_write_137 : decode bb_R_write 137 = .ok (.iinc 4 1, 3) := by decide +kernel
theorem dc_R_write_140 : decode bb_R_write 140 = .ok (.goto (-61), 3) := by decide +kernel
theorem dc_R_write_143 : decode bb_R_write 143 = .ok (.aload_n 0, 1) := by decide +kernel
theorem dc_R_write_144 : decode bb_R_write 144 = .ok (.aload_n 0, 1) := by decide +kernel
theorem dc_R_write_145 : decode bb_R_write 145 = .ok (.getfield 181, 3) := by decide +kernel
theorem dc_R_write_148 : decode bb_R_write 148 = .ok (.putfield 58, 3) := by decide +kernel
theorem dc_R_write_151 : decode bb_R_write 151 = .ok (.iconst 0, 1) := by decide +kernel
theorem dc_R_write_152 : decode bb_R_write 152 = .ok (.istore 4, 2) := by decide +kernel
theorem dc_R_write_154 : decode bb_R_write 154 = .ok (.iload 4, 2) := by decide +kernel
theorem dc_R_write_156 : decode bb_R_write 156 = .ok (.aload_n 0, 1) := by decide +kernel
theorem dc_R_write_157 : decode bb_R_write 157 = .ok (.getfield 58, 3) := by decide +kernel
theorem dc_R_write_160 : decode bb_R_write 160 = .ok (.if_icmp .ge 23, 3) := by decide +kernel
theorem dc_R_write_163 : decode bb_R_write 163 = .ok (.aload_n 0, 1) := by decide +kernel
theorem dc_R_write_164 : decode bb_R_write 164 = .ok (.getfield 7, 3) := by decide +kernel
theorem dc_R_write_167 : decode bb_R_write 167 = .ok (.iload 4, 2) := by decide +kernel
theorem dc_R_write_169 : decode bb_R_write 169 = .ok (.aload_n 0, 1) := by decide +kernel
theorem dc_R_write_170 : decode bb_R_write 170 = .ok (.getfield 55, 3) := by decide +kernel
theorem dc_R_write_173 : decode bb_R_write 173 = .ok (.iload 4, 2) := by decide +kernel
theorem dc_R_write_175 : decode bb_R_write 175 = .ok (.iaload, 1) := by decide +kernel
theorem dc_R_write_176 : decode bb_R_write 176 = .ok (.iastore, 1) := by decide +kernel
theorem dc_R_write_177 : decode bb_R_write 177 = .ok (.iinc 4 1, 3) := by decide +kernel
theorem dc_R_write_180 : decode bb_R_write 180 = .ok (.goto (-26), 3) := by decide +kernel
theorem dc_R_write_183 : decode bb_R_write 183 = .ok (.return_, 1) := by decide +kernel
theorem dc_R_put_0 : decode bb_R_put 0 = .ok (.aload_n 0, 1) := by decide +kernel
theorem dc_R_put_1 : decode bb_R_put 1 = .ok (.getfield 55, 3) := by decide +kernel
theorem dc_R_put_4 : decode bb_R_put 4 = .ok (.aload_n 0, 1) := by decide +kernel
theorem dc_R_put_5 : decode bb_R_put 5 = .ok (.getfield 181, 3) := by decide +kernel
theorem dc_R_put_8 : decode bb_R_put 8 = .ok (.iload_n 1, 1) := by decide +kernel
theorem dc_R_put_9 : decode bb_R_put 9 = .ok (.iastore, 1) := by decide +kernel
theorem dc_R_put_10 : decode bb_R_put 10 = .ok (.aload_n 0, 1) := by decide +kernel
theorem dc_R_put_11 : decode bb_R_put 11 = .ok (.dup, 1) := by decide +kernel
theorem dc_R_put_12 : decode bb_R_put 12 = .ok (.getfield 181, 3) := by decide +kernel
theorem dc_R_put_15 : decode bb_R_put 15 = .ok (.iconst 1, 1) := by decide +kernel
theorem dc_R_put_16 : decode bb_R_put 16 = .ok (.iadd, 1) := by decide +kernel
theorem dc_R_put_17 : decode bb_R_put 17 = .ok (.putfield 181, 3) := by decide +kernel
theorem dc_R_put_20 : decode bb_R_put 20 = .ok (.return_, 1) := by decide +kernel
theorem dc_R_writeBox_0 : decode bb_R_writeBox 0 = .ok (.iconst (-1), 1) := by decide +kernel
theorem dc_R_writeBox_1 : decode bb_R_writeBox 1 = .ok (.istore 4, 2) := by decide +kernel
theorem dc_R_writeBox_3 : decode bb_R_writeBox 3 = .ok (.iconst 0, 1) := by decide +kernel
theorem dc_R_writeBox_4 : decode bb_R_writeBox 4 = .ok (.istore 5, 2) := by decide +kernel
theorem dc_R_writeBox_6 : decode bb_R_writeBox 6 = .ok (.iload 5, 2) := by decide +kernel
theorem dc_R_writeBox_8 : decode bb_R_writeBox 8 = .ok (.aload_n 0, 1) := by decide +kernel
theorem dc_R_writeBox_9 : decode bb_R_writeBox 9 = .ok (.getfield 83, 3) := by decide +kernel
theorem dc_R_writeBox_12 : decode bb_R_writeBox 12 = .ok (.if_icmp .ge 28, 3) := by decide +kernel
theorem dc_R_writeBox_15 : decode bb_R_writeBox 15 = .ok (.aload_n 0, 1) := by decide +kernel
theorem dc_R_writeBox_16 : decode bb_R_writeBox 16 = .ok (.iload 5, 2) := by decide +kernel
theorem dc_R_writeBox_18 : decode bb_R_writeBox 18 = .ok (.invokevirtual 122, 3) := by decide +kernel
theorem dc_R_writeBox_21 : decode bb_R_writeBox 21 = .ok (.iload_n 1, 1) := by decide +kernel
theorem dc_R_writeBox_22 : decode bb_R_writeBox 22 = .ok (.if_icmp .ne 8, 3) := by decide +kernel
theorem dc_R_writeBox_25 : decode bb_R_writeBox 25 = .ok (.iload 5, 2) := by decide +kernel
theorem dc_R_writeBox_27 : decode bb_R_writeBox 27 = .ok (.goto 5, 3) := by decide +kernel
theorem dc_R_writeBox_30 : decode bb_R_writeBox 30 = .ok (.iload 4, 2) := by decide +kernel
theorem dc_R_writeBox_32 : decode bb_R_writeBox 32 = .ok (.istore 4, 2) := by decide +kernel
theorem dc_R_writeBox_34 : decode bb_R_writeBox 34 = .ok (.iinc 5 1, 3) := by decide +kernel
theorem dc_R_writeBox_37 : decode bb_R_writeBox 37 = .ok (.goto (-31), 3) := by decide +kernel
theorem dc_R_writeBox_40 : decode bb_R_writeBox 40 = .ok (.iload 4, 2) := by decide +kernel
theorem dc_R_writeBox_42 : decode bb_R_writeBox 42 = .ok (.ifCond .lt 28, 3) := by decide +kernel
theorem dc_R_writeBox_45 : decode bb_R_writeBox 45 = .ok (.aload_n 0, 1) := by decide +kernel
theorem dc_R_writeBox_46 : decode bb_R_writeBox 46 = .ok (.getfield 19, 3) := by decide +kernel
theorem dc_R_writeBox_49 : decode bb_R_writeBox 49 = .ok (.iload_n 1, 1) := by decide +kernel
theorem dc_R_writeBox_50 : decode bb_R_writeBox 50 = .ok (.iaload, 1) := by decide +kernel
theorem dc_R_writeBox_51 : decode bb_R_writeBox 51 = .ok (.bipush 79, 2) := by decide +kernel
theorem dc_R_writeBox_53 : decode bb_R_writeBox 53 = .ok (.if_icmp .eq 13, 3) := by decide +kernel
theorem dc_R_writeBox_56 : decode bb_R_writeBox 56 = .ok (.iload_n 2, 1) := by decide +kernel
theorem dc_R_writeBox_57 : decode bb_R_writeBox 57 = .ok (.iload 4, 2) := by decide +kernel
theorem dc_R_writeBox_59 : decode bb_R_writeBox 59 = .ok (.ishr, 1) := by decide +kernel
theorem dc_R_writeBox_60 : decode bb_R_writeBox 60 = .ok (.iconst 1, 1) := by decide +kernel
theorem dc_R_writeBox_61 : decode bb_R_writeBox 61 = .ok (.iand, 1) := by decide +kernel
theorem dc_R_writeBox_62 : decode bb_R_writeBox 62 = .ok (.iconst 1, 1) := by decide +kernel
theorem dc_R_writeBox_63 : decode bb_R_writeBox 63 = .ok (.if_icmp .ne 7, 3) := by decide +kernel
theorem dc_R_writeBox_66 : decode bb_R_writeBox 66 = .ok (.iconst 1, 1) := by decide +kernel
theorem dc_R_writeBox_67 : decode bb_R_writeBox 67 = .ok (.goto 4, 3) := by decide +kernel
theorem dc_R_writeBox_70 : decode bb_R_writeBox 70 = .ok (.iconst 0, 1) := by decide +kernel
theorem dc_R_writeBox_71 : decode bb_R_writeBox 71 = .ok (.istore 5, 2) := by decide +kernel
theorem dc_R_writeBox_73 : decode bb_R_writeBox 73 = .ok (.aload_n 0, 1) := by decide +kernel
theorem dc_R_writeBox_74 : decode bb_R_writeBox 74 = .ok (.aload_n 0, 1) := by decide +kernel
theorem dc_R_writeBox_75 : decode bb_R_writeBox 75 = .ok (.getfield 46, 3) := by decide +kernel
theorem dc_R_writeBox_78 : decode bb_R_writeBox 78 = .ok (.iload_n 1, 1) := by decide +kernel
theorem dc_R_writeBox_79 : decode bb_R_writeBox 79 = .ok (.iaload, 1) := by decide +kernel
theorem dc_R_writeBox_80 : decode bb_R_writeBox 80 = .ok (.iconst 4, 1) := by decide +kernel
theorem dc_R_writeBox_81 : decode bb_R_writeBox 81 = .ok (.if_icmp .ne 7, 3) := by decide +kernel
theorem dc_R_writeBox_84 : decode bb_R_writeBox 84 = .ok (.iconst 1, 1) := by decide +kernel
theorem dc_R_writeBox_85 : decode bb_R_writeBox 85 = .ok (.goto 9, 3) := by decide +kernel
theorem dc_R_writeBox_88 : decode bb_R_writeBox 88 = .ok (.aload_n 0, 1) := by decide +kernel
theorem dc_R_writeBox_89 : decode bb_R_writeBox 89 = .ok (.getfield 49, 3) := by decide +kernel
theorem dc_R_writeBox_92 : decode bb_R_writeBox 92 = .ok (.iload_n 1, 1) := by decide +kernel
theorem dc_R_writeBox_93 : decode bb_R_writeBox 93 = .ok (.iaload, 1) := by decide +kernel
theorem dc_R_writeBox_94 : decode bb_R_writeBox 94 = .ok (.invokevirtual 184, 3) := by decide +kernel
theorem dc_R_writeBox_97 : decode bb_R_writeBox 97 = .ok (.aload_n 0, 1) := by decide +kernel
theorem dc_R_writeBox_98 : decode bb_R_writeBox 98 = .ok (.iload 5, 2) := by decide +kernel
theorem dc_R_writeBox_100 : decode bb_R_writeBox 100 = .ok (.ifCond .eq 8, 3) := by decide +kernel
theorem dc_R_writeBox_103 : decode bb_R_writeBox 103 = .ok (.bipush 79, 2) := by decide +kernel
theorem dc_R_writeBox_105 : decode bb_R_writeBox 105 = .ok (.goto 9, 3) := by decide +kernel
theorem dc_R_writeBox_108 : decode bb_R_writeBox 108 = .ok (.aload_n 0, 1) := by decide +kernel
theorem dc_R_writeBox_109 : decode bb_R_writeBox 109 = .ok (.getfield 19, 3) := by decide +kernel
theorem dc_R_writeBox_112 : decode bb_R_writeBox 112 = .ok (.iload_n 1, 1) := by decide +kernel
theorem dc_R_writeBox_113 : decode bb_R_writeBox 113 = .ok (.iaload, 1) := by decide +kernel
theorem dc_R_writeBox_114 : decode bb_R_writeBox 114 = .ok (.invokevirtual 184, 3) := by decide +kernel
theorem dc_R_writeBox_117 : decode bb_R_writeBox 117 = .ok (.aload_n 0, 1) := by decide +kernel
theorem dc_R_writeBox_118 : decode bb_R_writeBox 118 = .ok (.getfield 46, 3) := by decide +kernel
theorem dc_R_writeBox_121 : decode bb_R_writeBox 121 = .ok (.iload_n 1, 1) := by decide +kernel
theorem dc_R_writeBox_122 : decode bb_R_writeBox 122 = .ok (.iaload, 1) := by decide +kernel
theorem dc_R_writeBox_123 : decode bb_R_writeBox 123 = .ok (.iconst 4, 1) := by decide +kernel
theorem dc_R_writeBox_124 : decode bb_R_writeBox 124 = .ok (.if_icmp .ne 30, 3) := by decide +kernel
theorem dc_R_writeBox_127 : decode bb_R_writeBox 127 = .ok (.aload_n 0, 1) := by decide +kernel
theorem dc_R_writeBox_128 : decode bb_R_writeBox 128 = .ok (.aload_n 0, 1) := by decide +kernel
theorem dc_R_writeBox_129 : decode bb_R_writeBox 129 = .ok (.getfield 49, 3) := by decide +kernel
theorem dc_R_writeBox_132 : decode bb_R_writeBox 132 = .ok (.iload_n 1, 1) := by decide +kernel
theorem dc_R_writeBox_133 : decode bb_R_writeBox 133 = .ok (.iaload, 1) := by decide +kernel
theorem dc_R_writeBox_134 : decode bb_R_writeBox 134 = .ok (.bipush 8, 2) := by decide +kernel
theorem dc_R_writeBox_136 : decode bb_R_writeBox 136 = .ok (.ishr, 1) := by decide +kernel
theorem dc_R_writeBox_137 : decode bb_R_writeBox 137 = .ok (.invokevirtual 184, 3) := by decide +kernel
theorem dc_R_writeBox_140 : decode bb_R_writeBox 140 = .ok (.aload_n 0, 1) := by decide +kernel
theorem dc_R_writeBox_141 : decode bb_R_writeBox 141 = .ok (.aload_n 0, 1) := by decide +kernel
theorem dc_R_writeBox_142 : decode bb_R_writeBox 142 = .ok (.getfield 49, 3) := by decide +kernel
theorem dc_R_writeBox_145 : decode bb_R_writeBox 145 = .ok (.iload_n 1, 1) := by decide +kernel
theorem dc_R_writeBox_146 : decode bb_R_writeBox 146 = .ok (.iaload, 1) := by decide +kernel
theorem dc_R_writeBox_147 : decode bb_R_writeBox 147 = .ok (.sipush 255, 3) := by decide +kernel
theorem dc_R_writeBox_150 : decode bb_R_writeBox 150 = .ok (.iand, 1) := by decide +kernel
theorem dc_R_writeBox_151 : decode bb_R_writeBox 151 = .ok (.invokevirtual 184, 3) := by decide +kernel
theorem dc_R_writeBox_154 : decode bb_R_writeBox 154 = .ok (.iload 4, 2) := by decide +kernel
theorem dc_R_writeBox_156 : decode bb_R_writeBox 156 = .ok (.ifCond .lt 71, 3) := by decide +kernel
theorem dc_R_writeBox_159 : decode bb_R_writeBox 159 = .ok (.aload_n 0, 1) := by decide +kernel
theorem dc_R_writeBox_160 : decode bb_R_writeBox 160 = .ok (.iload 4, 2) := by decide +kernel
theorem dc_R_writeBox_162 : decode bb_R_writeBox 162 = .ok (.invokevirtual 116, 3) := by decide +kernel
theorem dc_R_writeBox_165 : decode bb_R_writeBox 165 = .ok (.istore 6, 2) := by decide +kernel
theorem dc_R_writeBox_167 : decode bb_R_writeBox 167 = .ok (.aload_n 0, 1) := by decide +kernel
theorem dc_R_writeBox_168 : decode bb_R_writeBox 168 = .ok (.iload 6, 2) := by decide +kernel
theorem dc_R_writeBox_170 : decode bb_R_writeBox 170 = .ok (.invokevirtual 184, 3) := by decide +kernel
theorem dc_R_writeBox_173 : decode bb_R_writeBox 173 = .ok (.iconst 1, 1) := by decide +kernel
theorem dc_R_writeBox_174 : decode bb_R_writeBox 174 = .ok (.istore 7, 2) := by decide +kernel
theorem dc_R_writeBox_176 : decode bb_R_writeBox 176 = .ok (.iload 7, 2) := by decide +kernel
theorem dc_R_writeBox_178 : decode bb_R_writeBox 178 = .ok (.iload 6, 2) := by decide +kernel
theorem dc_R_writeBox_180 : decode bb_R_writeBox 180 = .ok (.if_icmp .gt 44, 3) := by decide +kernel
theorem dc_R_writeBox_183 : decode bb_R_writeBox 183 = .ok (.aload_n 0, 1) := by decide +kernel
theorem dc_R_writeBox_184 : decode bb_R_writeBox 184 = .ok (.iload 4, 2) := by decide +kernel
theorem dc_R_writeBox_186 : decode bb_R_writeBox 186 = .ok (.iload 7, 2) := by decide +kernel
theorem dc_R_writeBox_188 : decode bb_R_writeBox 188 = .ok (.iload_n 3, 1) := by decide +kernel
theorem dc_R_writeBox_189 : decode bb_R_writeBox 189 = .ok (.invokevirtual 165, 3) := by decide +kernel
theorem dc_R_writeBox_192 : decode bb_R_writeBox 192 = .ok (.istore 8, 2) := by decide +kernel
theorem dc_R_writeBox_194 : decode bb_R_writeBox 194 = .ok (.iload 5, 2) := by decide +kernel
theorem dc_R_writeBox_196 : decode bb_R_writeBox 196 = .ok (.ifCond .eq 12, 3) := by decide +kernel
theorem dc_R_writeBox_199 : decode bb_R_writeBox 199 = .ok (.aload_n 0, 1) := by decide +kernel
theorem dc_R_writeBox_200 : decode bb_R_writeBox 200 = .ok (.iload 8, 2) := by decide +kernel
theorem dc_R_writeBox_202 : decode bb_R_writeBox 202 = .ok (.bipush 8, 2) := by decide +kernel
theorem dc_R_writeBox_204 : decode bb_R_writeBox 204 = .ok (.ishr, 1) := by decide +kernel
theorem dc_R_writeBox_205 : decode bb_R_writeBox 205 = .ok (.invokevirtual 184, 3) := by decide +kernel
theorem dc_R_writeBox_208 : decode bb_R_writeBox 208 = .ok (.aload_n 0, 1) := by decide +kernel
theorem dc_R_writeBox_209 : decode bb_R_writeBox 209 = .ok (.iload 8, 2) := by decide +kernel
theorem dc_R_writeBox_211 : decode bb_R_writeBox 211 = .ok (.sipush 255, 3) := by decide +kernel
theorem dc_R_writeBox_214 : decode bb_R_writeBox 214 = .ok (.iand, 1) := by decide +kernel
theorem dc_R_writeBox_215 : decode bb_R_writeBox 215 = .ok (.invokevirtual 184, 3) := by decide +kernel
theorem dc_R_writeBox_218 : decode bb_R_writeBox 218 = .ok (.iinc 7 1, 3) := by decide +kernel
theorem dc_R_writeBox_221 : decode bb_R_writeBox 221 = .ok (.goto (-45), 3) := by decide +kernel
theorem dc_R_writeBox_224 : decode bb_R_writeBox 224 = .ok (.goto 41, 3) := by decide +kernel
theorem dc_R_writeBox_227 : decode bb_R_writeBox 227 = .ok (.aload_n 0, 1) := by decide +kernel
theorem dc_R_writeBox_228 : decode bb_R_writeBox 228 = .ok (.iload_n 1, 1) := by decide +kernel
theorem dc_R_writeBox_229 : decode bb_R_writeBox 229 = .ok (.invokevirtual 71, 3) := by decide +kernel
theorem dc_R_writeBox_232 : decode bb_R_writeBox 232 = .ok (.ifCond .ne 33, 3) := by decide +kernel
theorem dc_R_writeBox_235 : decode bb_R_writeBox 235 = .ok (.iconst 0, 1) := by decide +kernel
theorem dc_R_writeBox_236 : decode bb_R_writeBox 236 = .ok (.istore 6, 2) := by decide +kernel
theorem dc_R_writeBox_238 : decode bb_R_writeBox 238 = .ok (.iload 6, 2) := by decide +kernel
theorem dc_R_writeBox_240 : decode bb_R_writeBox 240 = .ok (.aload_n 0, 1) := by decide +kernel
theorem dc_R_writeBox_241 : decode bb_R_writeBox 241 = .ok (.iload_n 1, 1) := by decide +kernel
theorem dc_R_writeBox_242 : decode bb_R_writeBox 242 = .ok (.invokevirtual 103, 3) := by decide +kernel
theorem dc_R_writeBox_245 : decode bb_R_writeBox 245 = .ok (.if_icmp .ge 20, 3) := by decide +kernel
theorem dc_R_writeBox_248 : decode bb_R_writeBox 248 = .ok (.aload_n 0, 1) := by decide +kernel
theorem dc_R_writeBox_249 : decode bb_R_writeBox 249 = .ok (.aload_n 0, 1) := by decide +kernel
theorem dc_R_writeBox_250 : decode bb_R_writeBox 250 = .ok (.iload_n 1, 1) := by decide +kernel
theorem dc_R_writeBox_251 : decode bb_R_writeBox 251 = .ok (.iload 6, 2) := by decide +kernel
theorem dc_R_writeBox_253 : decode bb_R_writeBox 253 = .ok (.invokevirtual 106, 3) := by decide +kernel
theorem dc_R_writeBox_256 : decode bb_R_writeBox 256 = .ok (.invokevirtual 184, 3) := by decide +kernel
theorem dc_R_writeBox_259 : decode bb_R_writeBox 259 = .ok (.iinc 6 1, 3) := by decide +kernel
theorem dc_R_writeBox_262 : decode bb_R_writeBox 262 = .ok (.goto (-24), 3) := by decide +kernel
theorem dc_R_writeBox_265 : decode bb_R_writeBox 265 = .ok (.return_, 1) := by decide +kernel
theorem dc_W_law_0 : decode bb_W_law 0 = .ok (.new 7, 3) := by decide +kernel
theorem dc_W_law_3 : decode bb_W_law 3 = .ok (.dup, 1) := by decide +kernel
theorem dc_W_law_4 : decode bb_W_law 4 = .ok (.invokespecial 9, 3) := by decide +kernel
theorem dc_W_law_7 : decode bb_W_law 7 = .ok (.astore_n 1, 1) := by decide +kernel
theorem dc_W_law_8 : decode bb_W_law 8 = .ok (.new 10, 3) := by decide +kernel
theorem dc_W_law_11 : decode bb_W_law 11 = .ok (.dup, 1) := by decide +kernel
theorem dc_W_law_12 : decode bb_W_law 12 = .ok (.invokespecial 12, 3) := by decide +kernel
theorem dc_W_law_15 : decode bb_W_law 15 = .ok (.astore_n 2, 1) := by decide +kernel
theorem dc_W_law_16 : decode bb_W_law 16 = .ok (.iconst 0, 1) := by decide +kernel
theorem dc_W_law_17 : decode bb_W_law 17 = .ok (.istore_n 3, 1) := by decide +kernel
theorem dc_W_law_18 : decode bb_W_law 18 = .ok (.iload_n 3, 1) := by decide +kernel
theorem dc_W_law_19 : decode bb_W_law 19 = .ok (.aload_n 0, 1) := by decide +kernel
theorem dc_W_law_20 : decode bb_W_law 20 = .ok (.arraylength, 1) := by decide +kernel
theorem dc_W_law_21 : decode bb_W_law 21 = .ok (.iconst 4, 1) := by decide +kernel
theorem dc_W_law_22 : decode bb_W_law 22 = .ok (.isub, 1) := by decide +kernel
theorem dc_W_law_23 : decode bb_W_law 23 = .ok (.if_icmp .gt 422, 3) := by decide +kernel
theorem dc_W_law_26 : decode bb_W_law 26 = .ok (.aload_n 0, 1) := by decide +kernel
theorem dc_W_law_27 : decode bb_W_law 27 = .ok (.iload_n 3, 1) := by decide +kernel
theorem dc_W_law_28 : decode bb_W_law 28 = .ok (.iaload, 1) := by decide +kernel
theorem dc_W_law_29 : decode bb_W_law 29 = .ok (.bipush 15, 2) := by decide +kernel
theorem dc_W_law_31 : decode bb_W_law 31 = .ok (.iand, 1) := by decide +kernel
theorem dc_W_law_32 : decode bb_W_law 32 = .ok (.tableswitch 407 0 12 #[68, 131, 164, 187, 200, 223, 236, 249, 282, 295, 318, 361, 394], 68) := by decide +kernel
theorem dc_W_law_100 : decode bb_W_law 100 = .ok (.aload_n 1, 1) := by decide +kernel
theorem dc_W_law_101 : decode bb_W_law 101 = .ok (.aload_n 0, 1) := by decide +kernel
theorem dc_W_law_102 : decode bb_W_law 102 = .ok (.iload_n 3, 1) := by decide +kernel
theorem dc_W_law_103 : decode bb_W_law 103 = .ok (.iconst 1, 1) := by decide +kernel
theorem dc_W_law_104 : decode bb_W_law 104 = .ok (.iadd, 1) := by decide +kernel
theorem dc_W_law_105 : decode bb_W_law 105 = .ok (.iaload, 1) := by decide +kernel
theorem dc_W_law_106 : decode bb_W_law 106 = .ok (.i2l, 1) := by decide +kernel
theorem dc_W_law_107 : decode bb_W_law 107 = .ok (.bipush 32, 2) := by decide +kernel
theorem dc_W_law_109 : decode bb_W_law 109 = .ok (.lshl, 1) := by decide +kernel
theorem dc_W_law_110 : decode bb_W_law 110 = .ok (.aload_n 0, 1) := by decide +kernel
theorem dc_W_law_111 : decode bb_W_law 111 = .ok (.iload_n 3, 1) := by decide +kernel
theorem dc_W_law_112 : decode bb_W_law 112 = .ok (.iconst 2, 1) := by decide +kernel
theorem dc_W_law_113 : decode bb_W_law 113 = .ok (.iadd, 1) := by decide +kernel
theorem dc_W_law_114 : decode bb_W_law 114 = .ok (.iaload, 1) := by decide +kernel
theorem dc_W_law_115 : decode bb_W_law 115 = .ok (.i2l, 1) := by decide +kernel
theorem dc_W_law_116 : decode bb_W_law 116 = .ok (.ldc2_w 13, 3) := by decide +kernel
theorem dc_W_law_119 : decode bb_W_law 119 = .ok (.land, 1) := by decide +kernel
theorem dc_W_law_120 : decode bb_W_law 120 = .ok (.lor, 1) := by decide +kernel
theorem dc_W_law_121 : decode bb_W_law 121 = .ok (.aload_n 0, 1) := by decide +kernel
theorem dc_W_law_122 : decode bb_W_law 122 = .ok (.iload_n 3, 1) := by decide +kernel
theorem dc_W_law_123 : decode bb_W_law 123 = .ok (.iconst 3, 1) := by decide +kernel
theorem dc_W_law_124 : decode bb_W_law 124 = .ok (.iadd, 1) := by decide +kernel
theorem dc_W_law_125 : decode bb_W_law 125 = .ok (.iaload, 1) := by decide +kernel
theorem dc_W_law_126 : decode bb_W_law 126 = .ok (.invokevirtual 15, 3) := by decide +kernel
theorem dc_W_law_129 : decode bb_W_law 129 = .ok (.aload_n 2, 1) := by decide +kernel
theorem dc_W_law_130 : decode bb_W_law 130 = .ok (.aload_n 0, 1) := by decide +kernel
theorem dc_W_law_131 : decode bb_W_law 131 = .ok (.iload_n 3, 1) := by decide +kernel
theorem dc_W_law_132 : decode bb_W_law 132 = .ok (.iconst 1, 1) := by decide +kernel
theorem dc_W_law_133 : decode bb_W_law 133 = .ok (.iadd, 1) := by decide +kernel
theorem dc_W_law_134 : decode bb_W_law 134 = .ok (.iaload, 1) := by decide +kernel
theorem dc_W_law_135 : decode bb_W_law 135 = .ok (.i2l, 1) := by decide +kernel
theorem dc_W_law_136 : decode bb_W_law 136 = .ok (.bipush 32, 2) := by decide +kernel
theorem dc_W_law_138 : decode bb_W_law 138 = .ok (.lshl, 1) := by decide +kernel
theorem dc_W_law_139 : decode bb_W_law 139 = .ok (.aload_n 0, 1) := by decide +kernel
theorem dc_W_law_140 : decode bb_W_law 140 = .ok (.iload_n 3, 1) := by decide +kernel
theorem dc_W_law_141 : decode bb_W_law 141 = .ok (.iconst 2, 1) := by decide +kernel
theorem dc_W_law_142 : decode bb_W_law 142 = .ok (.iadd, 1) := by decide +kernel
theorem dc_W_law_143 : decode bb_W_law 143 = .ok (.iaload, 1) := by decide +kernel
theorem dc_W_law_144 : decode bb_W_law 144 = .ok (.i2l, 1) := by decide +kernel
theorem dc_W_law_145 : decode bb_W_law 145 = .ok (.ldc2_w 13, 3) := by decide +kernel
theorem dc_W_law_148 : decode bb_W_law 148 = .ok (.land, 1) := by decide +kernel
theorem dc_W_law_149 : decode bb_W_law 149 = .ok (.lor, 1) := by decide +kernel
theorem dc_W_law_150 : decode bb_W_law 150 = .ok (.aload_n 0, 1) := by decide +kernel
theorem dc_W_law_151 : decode bb_W_law 151 = .ok (.iload_n 3, 1) := by decide +kernel
theorem dc_W_law_152 : decode bb_W_law 152 = .ok (.iconst 3, 1) := by decide +kernel
theorem dc_W_law_153 : decode bb_W_law 153 = .ok (.iadd, 1) := by decide +kernel
theorem dc_W_law_154 : decode bb_W_law 154 = .ok (.iaload, 1) := by decide +kernel
theorem dc_W_law_155 : decode bb_W_law 155 = .ok (.invokevirtual 19, 3) := by decide +kernel
theorem dc_W_law_158 : decode bb_W_law 158 = .ok (.if_icmp .eq 281, 3) := by decide +kernel
theorem dc_W_law_161 : decode bb_W_law 161 = .ok (.iconst 0, 1) := by decide +kernel
theorem dc_W_law_162 : decode bb_W_law 162 = .ok (.ireturn, 1) := by decide +kernel
theorem dc_W_law_163 : decode bb_W_law 163 = .ok (.aload_n 1, 1) := by decide +kernel
theorem dc_W_law_164 : decode bb_W_law 164 = .ok (.aload_n 0, 1) := by decide +kernel
theorem dc_W_law_165 : decode bb_W_law 165 = .ok (.iload_n 3, 1) := by decide +kernel
theorem dc_W_law_166 : decode bb_W_law 166 = .ok (.iconst 1, 1) := by decide +kernel
theorem dc_W_law_167 : decode bb_W_law 167 = .ok (.iadd, 1) := by decide +kernel
theorem dc_W_law_168 : decode bb_W_law 168 = .ok (.iaload, 1) := by decide +kernel
theorem dc_W_law_169 : decode bb_W_law 169 = .ok (.aload_n 0, 1) := by decide +kernel
theorem dc_W_law_170 : decode bb_W_law 170 = .ok (.iload_n 3, 1) := by decide +kernel
theorem dc_W_law_171 : decode bb_W_law 171 = .ok (.iconst 2, 1) := by decide +kernel
theorem dc_W_law_172 : decode bb_W_law 172 = .ok (.iadd, 1) := by decide +kernel
theorem dc_W_law_173 : decode bb_W_law 173 = .ok (.iaload, 1) := by decide +kernel
theorem dc_W_law_174 : decode bb_W_law 174 = .ok (.invokevirtual 20, 3) := by decide +kernel
theorem dc_W_law_177 : decode bb_W_law 177 = .ok (.aload_n 2, 1) := by decide +kernel
theorem dc_W_law_178 : decode bb_W_law 178 = .ok (.aload_n 0, 1) := by decide +kernel
theorem dc_W_law_179 : decode bb_W_law 179 = .ok (.iload_n 3, 1) := by decide +kernel
theorem dc_W_law_180 : decode bb_W_law 180 = .ok (.iconst 1, 1) := by decide +kernel
theorem dc_W_law_181 : decode bb_W_law 181 = .ok (.iadd, 1) := by decide +kernel
theorem dc_W_law_182 : decode bb_W_law 182 = .ok (.iaload, 1) := by decide +kernel
theorem dc_W_law_183 : decode bb_W_law 183 = .ok (.aload_n 0, 1) := by decide +kernel
theorem dc_W_law_184 : decode bb_W_law 184 = .ok (.iload_n 3, 1) := by decide +kernel
theorem dc_W_law_185 : decode bb_W_law 185 = .ok (.iconst 2, 1) := by decide +kernel
theorem dc_W_law_186 : decode bb_W_law 186 = .ok (.iadd, 1) := by decide +kernel
theorem dc_W_law_187 : decode bb_W_law 187 = .ok (.iaload, 1) := by decide +kernel
theorem dc_W_law_188 : decode bb_W_law 188 = .ok (.invokevirtual 24, 3) := by decide +kernel
theorem dc_W_law_191 : decode bb_W_law 191 = .ok (.if_icmp .eq 248, 3) := by decide +kernel
theorem dc_W_law_194 : decode bb_W_law 194 = .ok (.iconst 0, 1) := by decide +kernel
theorem dc_W_law_195 : decode bb_W_law 195 = .ok (.ireturn, 1) := by decide +kernel
theorem dc_W_law_196 : decode bb_W_law 196 = .ok (.aload_n 1, 1) := by decide +kernel
theorem dc_W_law_197 : decode bb_W_law 197 = .ok (.aload_n 0, 1) := by decide +kernel
theorem dc_W_law_198 : decode bb_W_law 198 = .ok (.iload_n 3, 1) := by decide +kernel
theorem dc_W_law_199 : decode bb_W_law 199 = .ok (.iconst 1, 1) := by decide +kernel
theorem dc_W_law_200 : decode bb_W_law 200 = .ok (.iadd, 1) := by decide +kernel
theorem dc_W_law_201 : decode bb_W_law 201 = .ok (.iaload, 1) := by decide +kernel
theorem dc_W_law_202 : decode bb_W_law 202 = .ok (.invokevirtual 25, 3) := by decide +kernel
theorem dc_W_law_205 : decode bb_W_law 205 = .ok (.aload_n 2, 1) := by decide +kernel
theorem dc_W_law_206 : decode bb_W_law 206 = .ok (.aload_n 0, 1) := by decide +kernel
theorem dc_W_law_207 : decode bb_W_law 207 = .ok (.iload_n 3, 1) := by decide +kernel
theorem dc_W_law_208 : decode bb_W_law 208 = .ok (.iconst 1, 1) := by decide +kernel
theorem dc_W_law_209 : decode bb_W_law 209 = .ok (.iadd, 1) := by decide +kernel
theorem dc_W_law_210 : decode bb_W_law 210 = .ok (.iaload, 1) := by decide +kernel
theorem dc_W_law_211 : decode bb_W_law 211 = .ok (.invokevirtual 29, 3) := by decide +kernel
theorem dc_W_law_214 : decode bb_W_law 214 = .ok (.if_icmp .eq 225, 3) := by decide +kernel
theorem dc_W_law_217 : decode bb_W_law 217 = .ok (.iconst 0, 1) := by decide +kernel
theorem dc_W_law_218 : decode bb_W_law 218 = .ok (.ireturn, 1) := by decide +kernel
theorem dc_W_law_219 : decode bb_W_law 219 = .ok (.aload_n 1, 1) := by decide +kernel
theorem dc_W_law_220 : decode bb_W_law 220 = .ok (.invokevirtual 30, 3) := by decide +kernel
theorem dc_W_law_223 : decode bb_W_law 223 = .ok (.aload_n 2, 1) := by decide +kernel
theorem dc_W_law_224 : decode bb_W_law 224 = .ok (.invokevirtual 34, 3) := by decide +kernel
theorem dc_W_law_227 : decode bb_W_law 227 = .ok (.if_icmp .eq 212, 3) := by decide +kernel
theorem dc_W_law_230 : decode bb_W_law 230 = .ok (.iconst 0, 1) := by decide +kernel
theorem dc_W_law_231 : decode bb_W_law 231 = .ok (.ireturn, 1) := by decide +kernel
theorem dc_W_law_232 : decode bb_W_law 232 = .ok (.aload_n 1, 1) := by decide +kernel
theorem dc_W_law_233 : decode bb_W_law 233 = .ok (.aload_n 0, 1) := by decide +kernel
theorem dc_W_law_234 : decode bb_W_law 234 = .ok (.iload_n 3, 1) := by decide +kernel
theorem dc_W_law_235 : decode bb_W_law 235 = .ok (.iconst 1, 1) := by decide +kernel
theorem dc_W_law_236 : decode bb_W_law 236 = .ok (.iadd, 1) := by decide +kernel
theorem dc_W_law_237 : decode bb_W_law 237 = .ok (.iaload, 1) := by decide +kernel
theorem dc_W_law_238 : decode bb_W_law 238 = .ok (.invokevirtual 35, 3) := by decide +kernel
theorem dc_W_law_241 : decode bb_W_law 241 = .ok (.aload_n 2, 1) := by decide +kernel
theorem dc_W_law_242 : decode bb_W_law 242 = .ok (.aload_n 0, 1) := by decide +kernel
theorem dc_W_law_243 : decode bb_W_law 243 = .ok (.iload_n 3, 1) := by decide +kernel
theorem dc_W_law_244 : decode bb_W_law 244 = .ok (.iconst 1, 1) := by decide +kernel
theorem dc_W_law_245 : decode bb_W_law 245 = .ok (.iadd, 1) := by decide +kernel
theorem dc_W_law_246 : decode bb_W_law 246 = .ok (.iaload, 1) := by decide +kernel
theorem dc_W_law_247 : decode bb_W_law 247 = .ok (.invokevirtual 39, 3) := by decide +kernel
theorem dc_W_law_250 : decode bb_W_law 250 = .ok (.if_icmp .eq 189, 3) := by decide +kernel
theorem dc_W_law_253 : decode bb_W_law 253 = .ok (.iconst 0, 1) := by decide +kernel
theorem dc_W_law_254 : decode bb_W_law 254 = .ok (.ireturn, 1) := by decide +kernel
theorem dc_W_law_255 : decode bb_W_law 255 = .ok (.aload_n 1, 1) := by decide +kernel
theorem dc_W_law_256 : decode bb_W_law 256 = .ok (.invokevirtual 40, 3) := by decide +kernel
theorem dc_W_law_259 : decode bb_W_law 259 = .ok (.aload_n 2, 1) := by decide +kernel
theorem dc_W_law_260 : decode bb_W_law 260 = .ok (.invokevirtual 43, 3) := by decide +kernel
theorem dc_W_law_263 : decode bb_W_law 263 = .ok (.if_icmp .eq 176, 3) := by decide +kernel
theorem dc_W_law_266 : decode bb_W_law 266 = .ok (.iconst 0, 1) := by decide +kernel
theorem dc_W_law_267 : decode bb_W_law 267 = .ok (.ireturn, 1) := by decide +kernel
theorem dc_W_law_268 : decode bb_W_law 268 = .ok (.aload_n 1, 1) := by decide +kernel
theorem dc_W_law_269 : decode bb_W_law 269 = .ok (.invokevirtual 44, 3) := by decide +kernel
theorem dc_W_law_272 : decode bb_W_law 272 = .ok (.aload_n 2, 1) := by decide +kernel
theorem dc_W_law_273 : decode bb_W_law 273 = .ok (.invokevirtual 47, 3) := by decide +kernel
theorem dc_W_law_276 : decode bb_W_law 276 = .ok (.if_icmp .eq 163, 3) := by decide +kernel
theorem dc_W_law_279 : decode bb_W_law 279 = .ok (.iconst 0, 1) := by decide +kernel
theorem dc_W_law_280 : decode bb_W_law 280 = .ok (.ireturn, 1) := by decide +kernel
theorem dc_W_law_281 : decode bb_W_law 281 = .ok (.aload_n 1, 1) := by decide +kernel
theorem dc_W_law_282 : decode bb_W_law 282 = .ok (.aload_n 0, 1) := by decide +kernel
theorem dc_W_law_283 : decode bb_W_law 283 = .ok (.iload_n 3, 1) := by decide +kernel
theorem dc_W_law_284 : decode bb_W_law 284 = .ok (.iconst 1, 1) := by decide +kernel
theorem dc_W_law_285 : decode bb_W_law 285 = .ok (.iadd, 1) := by decide +kernel
theorem dc_W_law_286 : decode bb_W_law 286 = .ok (.iaload, 1) := by decide +kernel
theorem dc_W_law_287 : decode bb_W_law 287 = .ok (.aload_n 0, 1) := by decide +kernel
theorem dc_W_law_288 : decode bb_W_law 288 = .ok (.iload_n 3, 1) := by decide +kernel
theorem dc_W_law_289 : decode bb_W_law 289 = .ok (.iconst 2, 1) := by decide +kernel
theorem dc_W_law_290 : decode bb_W_law 290 = .ok (.iadd, 1) := by decide +kernel
theorem dc_W_law_291 : decode bb_W_law 291 = .ok (.iaload, 1) := by decide +kernel
theorem dc_W_law_292 : decode bb_W_law 292 = .ok (.invokevirtual 48, 3) := by decide +kernel
theorem dc_W_law_295 : decode bb_W_law 295 = .ok (.aload_n 2, 1) := by decide +kernel
theorem dc_W_law_296 : decode bb_W_law 296 = .ok (.aload_n 0, 1) := by decide +kernel
theorem dc_W_law_297 : decode bb_W_law 297 = .ok (.iload_n 3, 1) := by decide +kernel
theorem dc_W_law_298 : decode bb_W_law 298 = .ok (.iconst 1, 1) := by decide +kernel
theorem dc_W_law_299 : decode bb_W_law 299 = .ok (.iadd, 1) := by decide +kernel
theorem dc_W_law_300 : decode bb_W_law 300 = .ok (.iaload, 1) := by decide +kernel
theorem dc_W_law_301 : decode bb_W_law 301 = .ok (.aload_n 0, 1) := by decide +kernel
theorem dc_W_law_302 : decode bb_W_law 302 = .ok (.iload_n 3, 1) := by decide +kernel
theorem dc_W_law_303 : decode bb_W_law 303 = .ok (.iconst 2, 1) := by decide +kernel
theorem dc_W_law_304 : decode bb_W_law 304 = .ok (.iadd, 1) := by decide +kernel
theorem dc_W_law_305 : decode bb_W_law 305 = .ok (.iaload, 1) := by decide +kernel
theorem dc_W_law_306 : decode bb_W_law 306 = .ok (.invokevirtual 51, 3) := by decide +kernel
theorem dc_W_law_309 : decode bb_W_law 309 = .ok (.if_icmp .eq 130, 3) := by decide +kernel
theorem dc_W_law_312 : decode bb_W_law 312 = .ok (.iconst 0, 1) := by decide +kernel
theorem dc_W_law_313 : decode bb_W_law 313 = .ok (.ireturn, 1) := by decide +kernel
theorem dc_W_law_314 : decode bb_W_law 314 = .ok (.aload_n 1, 1) := by decide +kernel
theorem dc_W_law_315 : decode bb_W_law 315 = .ok (.invokevirtual 52, 3) := by decide +kernel
theorem dc_W_law_318 : decode bb_W_law 318 = .ok (.aload_n 2, 1) := by decide +kernel
theorem dc_W_law_319 : decode bb_W_law 319 = .ok (.invokevirtual 55, 3) := by decide +kernel
theorem dc_W_law_322 : decode bb_W_law 322 = .ok (.if_icmp .eq 117, 3) := by decide +kernel
theorem dc_W_law_325 : decode bb_W_law 325 = .ok (.iconst 0, 1) := by decide +kernel
theorem dc_W_law_326 : decode bb_W_law 326 = .ok (.ireturn, 1) := by decide +kernel
theorem dc_W_law_327 : decode bb_W_law 327 = .ok (.aload_n 1, 1) := by decide +kernel
theorem dc_W_law_328 : decode bb_W_law 328 = .ok (.aload_n 0, 1) := by decide +kernel
theorem dc_W_law_329 : decode bb_W_law 329 = .ok (.iload_n 3, 1) := by decide +kernel
theorem dc_W_law_330 : decode bb_W_law 330 = .ok (.iconst 1, 1) := by decide +kernel
theorem dc_W_law_331 : decode bb_W_law 331 = .ok (.iadd, 1) := by decide +kernel
theorem dc_W_law_332 : decode bb_W_law 332 = .ok (.iaload, 1) := by decide +kernel
theorem dc_W_law_333 : decode bb_W_law 333 = .ok (.invokevirtual 56, 3) := by decide +kernel
theorem dc_W_law_336 : decode bb_W_law 336 = .ok (.aload_n 2, 1) := by decide +kernel
theorem dc_W_law_337 : decode bb_W_law 337 = .ok (.aload_n 0, 1) := by decide +kernel
theorem dc_W_law_338 : decode bb_W_law 338 = .ok (.iload_n 3, 1) := by decide +kernel
theorem dc_W_law_339 : decode bb_W_law 339 = .ok (.iconst 1, 1) := by decide +kernel
theorem dc_W_law_340 : decode bb_W_law 340 = .ok (.iadd, 1) := by decide +kernel
theorem dc_W_law_341 : decode bb_W_law 341 = .ok (.iaload, 1) := by decide +kernel
theorem dc_W_law_342 : decode bb_W_law 342 = .ok (.invokevirtual 59, 3) := by decide +kernel
theorem dc_W_law_345 : decode bb_W_law 345 = .ok (.if_icmp .eq 94, 3) := by decide +kernel
theorem dc_W_law_348 : decode bb_W_law 348 = .ok (.iconst 0, 1) := by decide +kernel
theorem dc_W_law_349 : decode bb_W_law 349 = .ok (.ireturn, 1) := by decide +kernel
theorem dc_W_law_350 : decode bb_W_law 350 = .ok (.aload_n 1, 1) := by decide +kernel
theorem dc_W_law_351 : decode bb_W_law 351 = .ok (.aload_n 0, 1) := by decide +kernel
theorem dc_W_law_352 : decode bb_W_law 352 = .ok (.iload_n 3, 1) := by decide +kernel
theorem dc_W_law_353 : decode bb_W_law 353 = .ok (.iconst 1, 1) := by decide +kernel
theorem dc_W_law_354 : decode bb_W_law 354 = .ok (.iadd, 1) := by decide +kernel
theorem dc_W_law_355 : decode bb_W_law 355 = .ok (.iaload, 1) := by decide +kernel
theorem dc_W_law_356 : decode bb_W_law 356 = .ok (.aload_n 0, 1) := by decide +kernel
theorem dc_W_law_357 : decode bb_W_law 357 = .ok (.iload_n 3, 1) := by decide +kernel
theorem dc_W_law_358 : decode bb_W_law 358 = .ok (.iconst 2, 1) := by decide +kernel
theorem dc_W_law_359 : decode bb_W_law 359 = .ok (.iadd, 1) := by decide +kernel
theorem dc_W_law_360 : decode bb_W_law 360 = .ok (.iaload, 1) := by decide +kernel
theorem dc_W_law_361 : decode bb_W_law 361 = .ok (.aload_n 0, 1) := by decide +kernel
theorem dc_W_law_362 : decode bb_W_law 362 = .ok (.iload_n 3, 1) := by decide +kernel
theorem dc_W_law_363 : decode bb_W_law 363 = .ok (.iconst 3, 1) := by decide +kernel
theorem dc_W_law_364 : decode bb_W_law 364 = .ok (.iadd, 1) := by decide +kernel
theorem dc_W_law_365 : decode bb_W_law 365 = .ok (.iaload, 1) := by decide +kernel
theorem dc_W_law_366 : decode bb_W_law 366 = .ok (.invokevirtual 60, 3) := by decide +kernel
theorem dc_W_law_369 : decode bb_W_law 369 = .ok (.aload_n 2, 1) := by decide +kernel
theorem dc_W_law_370 : decode bb_W_law 370 = .ok (.aload_n 0, 1) := by decide +kernel
theorem dc_W_law_371 : decode bb_W_law 371 = .ok (.iload_n 3, 1) := by decide +kernel
theorem dc_W_law_372 : decode bb_W_law 372 = .ok (.iconst 1, 1) := by decide +kernel
theorem dc_W_law_373 : decode bb_W_law 373 = .ok (.iadd, 1) := by decide +kernel
theorem dc_W_law_374 : decode bb_W_law 374 = .ok (.iaload, 1) := by decide +kernel
theorem dc_W_law_375 : decode bb_W_law 375 = .ok (.aload_n 0, 1) := by decide +kernel
theorem dc_W_law_376 : decode bb_W_law 376 = .ok (.iload_n 3, 1) := by decide +kernel
theorem dc_W_law_377 : decode bb_W_law 377 = .ok (.iconst 2, 1) := by decide +kernel
theorem dc_W_law_378 : decode bb_W_law 378 = .ok (.iadd, 1) := by decide +kernel
theorem dc_W_law_379 : decode bb_W_law 379 = .ok (.iaload, 1) := by decide +kernel
theorem dc_W_law_380 : decode bb_W_law 380 = .ok (.aload_n 0, 1) := by decide +kernel
theorem dc_W_law_381 : decode bb_W_law 381 = .ok (.iload_n 3, 1) := by decide +kernel
theorem dc_W_law_382 : decode bb_W_law 382 = .ok (.iconst 3, 1) := by decide +kernel
theorem dc_W_law_383 : decode bb_W_law 383 = .ok (.iadd, 1) := by decide +kernel
theorem dc_W_law_384 : decode bb_W_law 384 = .ok (.iaload, 1) := by decide +kernel
theorem dc_W_law_385 : decode bb_W_law 385 = .ok (.invokevirtual 64, 3) := by decide +kernel
theorem dc_W_law_388 : decode bb_W_law 388 = .ok (.if_icmp .eq 51, 3) := by decide +kernel
theorem dc_W_law_391 : decode bb_W_law 391 = .ok (.iconst 0, 1) := by decide +kernel
theorem dc_W_law_392 : decode bb_W_law 392 = .ok (.ireturn, 1) := by decide +kernel
theorem dc_W_law_393 : decode bb_W_law 393 = .ok (.aload_n 1, 1) := by decide +kernel
theorem dc_W_law_394 : decode bb_W_law 394 = .ok (.aload_n 0, 1) := by decide +kernel
theorem dc_W_law_395 : decode bb_W_law 395 = .ok (.iload_n 3, 1) := by decide +kernel
theorem dc_W_law_396 : decode bb_W_law 396 = .ok (.iconst 1, 1) := by decide +kernel
theorem dc_W_law_397 : decode bb_W_law 397 = .ok (.iadd, 1) := by decide +kernel
theorem dc_W_law_398 : decode bb_W_law 398 = .ok (.iaload, 1) := by decide +kernel
theorem dc_W_law_399 : decode bb_W_law 399 = .ok (.aload_n 0, 1) := by decide +kernel
theorem dc_W_law_400 : decode bb_W_law 400 = .ok (.iload_n 3, 1) := by decide +kernel
theorem dc_W_law_401 : decode bb_W_law 401 = .ok (.iconst 2, 1) := by decide +kernel
theorem dc_W_law_402 : decode bb_W_law 402 = .ok (.iadd, 1) := by decide +kernel
theorem dc_W_law_403 : decode bb_W_law 403 = .ok (.iaload, 1) := by decide +kernel
theorem dc_W_law_404 : decode bb_W_law 404 = .ok (.invokevirtual 65, 3) := by decide +kernel
theorem dc_W_law_407 : decode bb_W_law 407 = .ok (.aload_n 2, 1) := by decide +kernel
theorem dc_W_law_408 : decode bb_W_law 408 = .ok (.aload_n 0, 1) := by decide +kernel
theorem dc_W_law_409 : decode bb_W_law 409 = .ok (.iload_n 3, 1) := by decide +kernel
theorem dc_W_law_410 : decode bb_W_law 410 = .ok (.iconst 1, 1) := by decide +kernel
theorem dc_W_law_411 : decode bb_W_law 411 = .ok (.iadd, 1) := by decide +kernel
theorem dc_W_law_412 : decode bb_W_law 412 = .ok (.iaload, 1) := by decide +kernel
theorem dc_W_law_413 : decode bb_W_law 413 = .ok (.aload_n 0, 1) := by decide +kernel
theorem dc_W_law_414 : decode bb_W_law 414 = .ok (.iload_n 3, 1) := by decide +kernel
theorem dc_W_law_415 : decode bb_W_law 415 = .ok (.iconst 2, 1) := by decide +kernel
theorem dc_W_law_416 : decode bb_W_law 416 = .ok (.iadd, 1) := by decide +kernel
theorem dc_W_law_417 : decode bb_W_law 417 = .ok (.iaload, 1) := by decide +kernel
theorem dc_W_law_418 : decode bb_W_law 418 = .ok (.invokevirtual 68, 3) := by decide +kernel
theorem dc_W_law_421 : decode bb_W_law 421 = .ok (.if_icmp .eq 18, 3) := by decide +kernel
theorem dc_W_law_424 : decode bb_W_law 424 = .ok (.iconst 0, 1) := by decide +kernel
theorem dc_W_law_425 : decode bb_W_law 425 = .ok (.ireturn, 1) := by decide +kernel
theorem dc_W_law_426 : decode bb_W_law 426 = .ok (.aload_n 1, 1) := by decide +kernel
theorem dc_W_law_427 : decode bb_W_law 427 = .ok (.invokevirtual 69, 3) := by decide +kernel
theorem dc_W_law_430 : decode bb_W_law 430 = .ok (.aload_n 2, 1) := by decide +kernel
theorem dc_W_law_431 : decode bb_W_law 431 = .ok (.invokevirtual 72, 3) := by decide +kernel
theorem dc_W_law_434 : decode bb_W_law 434 = .ok (.if_icmp .eq 5, 3) := by decide +kernel
theorem dc_W_law_437 : decode bb_W_law 437 = .ok (.iconst 0, 1) := by decide +kernel
theorem dc_W_law_438 : decode bb_W_law 438 = .ok (.ireturn, 1) := by decide +kernel
theorem dc_W_law_439 : decode bb_W_law 439 = .ok (.iinc 3 4, 3) := by decide +kernel
theorem dc_W_law_442 : decode bb_W_law 442 = .ok (.goto (-424), 3) := by decide +kernel
theorem dc_W_law_445 : decode bb_W_law 445 = .ok (.iconst 1, 1) := by decide +kernel
theorem dc_W_law_446 : decode bb_W_law 446 = .ok (.ireturn, 1) := by decide +kernel
