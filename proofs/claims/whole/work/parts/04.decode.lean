theorem dX9_makeList_16 : decode cX9_makeList 16 = .ok (.aload 6, 2) := by decide +kernel
theorem dX9_makeList_18 : decode cX9_makeList 18 = .ok (.iload_n 3, 1) := by decide +kernel
theorem dX9_makeList_19 : decode cX9_makeList 19 = .ok (.invokevirtual 276, 3) := by decide +kernel
theorem dX9_makeList_22 : decode cX9_makeList 22 = .ok (.iconst 0, 1) := by decide +kernel
theorem dX9_makeList_23 : decode cX9_makeList 23 = .ok (.istore 7, 2) := by decide +kernel
theorem dX9_makeList_25 : decode cX9_makeList 25 = .ok (.iload 7, 2) := by decide +kernel
theorem dX9_makeList_27 : decode cX9_makeList 27 = .ok (.iload 4, 2) := by decide +kernel
theorem dX9_makeList_29 : decode cX9_makeList 29 = .ok (.if_icmp .ge 59, 3) := by decide +kernel
theorem dX9_makeList_32 : decode cX9_makeList 32 = .ok (.aload_n 0, 1) := by decide +kernel
theorem dX9_makeList_33 : decode cX9_makeList 33 = .ok (.getfield 54, 3) := by decide +kernel
theorem dX9_makeList_36 : decode cX9_makeList 36 = .ok (.iload_n 3, 1) := by decide +kernel
theorem dX9_makeList_37 : decode cX9_makeList 37 = .ok (.invokevirtual 279, 3) := by decide +kernel
theorem dX9_makeList_40 : decode cX9_makeList 40 = .ok (.iload_n 2, 1) := by decide +kernel
theorem dX9_makeList_41 : decode cX9_makeList 41 = .ok (.iconst 1, 1) := by decide +kernel
theorem dX9_makeList_42 : decode cX9_makeList 42 = .ok (.if_icmp .ne 16, 3) := by decide +kernel
theorem dX9_makeList_45 : decode cX9_makeList 45 = .ok (.aload_n 0, 1) := by decide +kernel
theorem dX9_makeList_46 : decode cX9_makeList 46 = .ok (.aload 6, 2) := by decide +kernel
theorem dX9_makeList_48 : decode cX9_makeList 48 = .ok (.iload 7, 2) := by decide +kernel
theorem dX9_makeList_50 : decode cX9_makeList 50 = .ok (.iload 4, 2) := by decide +kernel
theorem dX9_makeList_52 : decode cX9_makeList 52 = .ok (.invokevirtual 280, 3) := by decide +kernel
theorem dX9_makeList_55 : decode cX9_makeList 55 = .ok (.goto 15, 3) := by decide +kernel
theorem dX9_makeList_58 : decode cX9_makeList 58 = .ok (.aload_n 0, 1) := by decide +kernel
theorem dX9_makeList_59 : decode cX9_makeList 59 = .ok (.aload 6, 2) := by decide +kernel
theorem dX9_makeList_61 : decode cX9_makeList 61 = .ok (.aload 5, 2) := by decide +kernel
theorem dX9_makeList_63 : decode cX9_makeList 63 = .ok (.iload 7, 2) := by decide +kernel
theorem dX9_makeList_65 : decode cX9_makeList 65 = .ok (.iload 4, 2) := by decide +kernel
theorem dX9_makeList_67 : decode cX9_makeList 67 = .ok (.invokevirtual 284, 3) := by decide +kernel
theorem dX9_makeList_70 : decode cX9_makeList 70 = .ok (.aload 6, 2) := by decide +kernel
theorem dX9_makeList_72 : decode cX9_makeList 72 = .ok (.invokevirtual 199, 3) := by decide +kernel
theorem dX9_makeList_75 : decode cX9_makeList 75 = .ok (.aload_n 0, 1) := by decide +kernel
theorem dX9_makeList_76 : decode cX9_makeList 76 = .ok (.getfield 54, 3) := by decide +kernel
theorem dX9_makeList_79 : decode cX9_makeList 79 = .ok (.invokevirtual 288, 3) := by decide +kernel
theorem dX9_makeList_82 : decode cX9_makeList 82 = .ok (.iinc 7 1, 3) := by decide +kernel
theorem dX9_makeList_85 : decode cX9_makeList 85 = .ok (.goto (-60), 3) := by decide +kernel
theorem dX9_makeList_88 : decode cX9_makeList 88 = .ok (.aload 6, 2) := by decide +kernel
theorem dX9_makeList_90 : decode cX9_makeList 90 = .ok (.invokevirtual 199, 3) := by decide +kernel
theorem dX9_makeList_93 : decode cX9_makeList 93 = .ok (.invokevirtual 292, 3) := by decide +kernel
theorem dX9_makeList_96 : decode cX9_makeList 96 = .ok (.ireturn, 1) := by decide +kernel
theorem dX9_preparedScorer_0 : decode cX9_preparedScorer 0 = .ok (.iload_n 1, 1) := by decide +kernel
theorem dX9_preparedScorer_1 : decode cX9_preparedScorer 1 = .ok (.iconst 2, 1) := by decide +kernel
theorem dX9_preparedScorer_2 : decode cX9_preparedScorer 2 = .ok (.if_icmp .ne 25, 3) := by decide +kernel
theorem dX9_preparedScorer_5 : decode cX9_preparedScorer 5 = .ok (.aload_n 0, 1) := by decide +kernel
theorem dX9_preparedScorer_6 : decode cX9_preparedScorer 6 = .ok (.getfield 47, 3) := by decide +kernel
theorem dX9_preparedScorer_9 : decode cX9_preparedScorer 9 = .ok (.iload_n 2, 1) := by decide +kernel
theorem dX9_preparedScorer_10 : decode cX9_preparedScorer 10 = .ok (.iconst 2, 1) := by decide +kernel
theorem dX9_preparedScorer_11 : decode cX9_preparedScorer 11 = .ok (.if_icmp .ne 7, 3) := by decide +kernel
theorem dX9_preparedScorer_14 : decode cX9_preparedScorer 14 = .ok (.iconst 1, 1) := by decide +kernel
theorem dX9_preparedScorer_15 : decode cX9_preparedScorer 15 = .ok (.goto 4, 3) := by decide +kernel
theorem dX9_preparedScorer_18 : decode cX9_preparedScorer 18 = .ok (.iconst 0, 1) := by decide +kernel
theorem dX9_preparedScorer_19 : decode cX9_preparedScorer 19 = .ok (.invokevirtual 293, 3) := by decide +kernel
theorem dX9_preparedScorer_22 : decode cX9_preparedScorer 22 = .ok (.aload_n 0, 1) := by decide +kernel
theorem dX9_preparedScorer_23 : decode cX9_preparedScorer 23 = .ok (.getfield 47, 3) := by decide +kernel
theorem dX9_preparedScorer_26 : decode cX9_preparedScorer 26 = .ok (.areturn, 1) := by decide +kernel
theorem dX9_preparedScorer_27 : decode cX9_preparedScorer 27 = .ok (.iload_n 1, 1) := by decide +kernel
theorem dX9_preparedScorer_28 : decode cX9_preparedScorer 28 = .ok (.ifCond .ne 21, 3) := by decide +kernel
theorem dX9_preparedScorer_31 : decode cX9_preparedScorer 31 = .ok (.aload_n 0, 1) := by decide +kernel
theorem dX9_preparedScorer_32 : decode cX9_preparedScorer 32 = .ok (.getfield 38, 3) := by decide +kernel
theorem dX9_preparedScorer_35 : decode cX9_preparedScorer 35 = .ok (.aload_n 0, 1) := by decide +kernel
theorem dX9_preparedScorer_36 : decode cX9_preparedScorer 36 = .ok (.getfield 12, 3) := by decide +kernel
theorem dX9_preparedScorer_39 : decode cX9_preparedScorer 39 = .ok (.aload_n 0, 1) := by decide +kernel
theorem dX9_preparedScorer_40 : decode cX9_preparedScorer 40 = .ok (.getfield 19, 3) := by decide +kernel
theorem dX9_preparedScorer_43 : decode cX9_preparedScorer 43 = .ok (.invokevirtual 297, 3) := by decide +kernel
theorem dX9_preparedScorer_46 : decode cX9_preparedScorer 46 = .ok (.goto 18, 3) := by decide +kernel
theorem dX9_preparedScorer_49 : decode cX9_preparedScorer 49 = .ok (.aload_n 0, 1) := by decide +kernel
theorem dX9_preparedScorer_50 : decode cX9_preparedScorer 50 = .ok (.getfield 38, 3) := by decide +kernel
theorem dX9_preparedScorer_53 : decode cX9_preparedScorer 53 = .ok (.aload_n 0, 1) := by decide +kernel
theorem dX9_preparedScorer_54 : decode cX9_preparedScorer 54 = .ok (.getfield 12, 3) := by decide +kernel
theorem dX9_preparedScorer_57 : decode cX9_preparedScorer 57 = .ok (.aload_n 0, 1) := by decide +kernel
theorem dX9_preparedScorer_58 : decode cX9_preparedScorer 58 = .ok (.getfield 23, 3) := by decide +kernel
theorem dX9_preparedScorer_61 : decode cX9_preparedScorer 61 = .ok (.invokevirtual 301, 3) := by decide +kernel
theorem dX9_preparedScorer_64 : decode cX9_preparedScorer 64 = .ok (.aload_n 0, 1) := by decide +kernel
theorem dX9_preparedScorer_65 : decode cX9_preparedScorer 65 = .ok (.getfield 38, 3) := by decide +kernel
theorem dX9_preparedScorer_68 : decode cX9_preparedScorer 68 = .ok (.areturn, 1) := by decide +kernel
theorem dX9_isOfShard_0 : decode cX9_isOfShard 0 = .ok (.iload_n 2, 1) := by decide +kernel
theorem dX9_isOfShard_1 : decode cX9_isOfShard 1 = .ok (.ifCond .le 14, 3) := by decide +kernel
theorem dX9_isOfShard_4 : decode cX9_isOfShard 4 = .ok (.iload_n 0, 1) := by decide +kernel
theorem dX9_isOfShard_5 : decode cX9_isOfShard 5 = .ok (.iload_n 2, 1) := by decide +kernel
theorem dX9_isOfShard_6 : decode cX9_isOfShard 6 = .ok (.irem, 1) := by decide +kernel
theorem dX9_isOfShard_7 : decode cX9_isOfShard 7 = .ok (.iload_n 1, 1) := by decide +kernel
theorem dX9_isOfShard_8 : decode cX9_isOfShard 8 = .ok (.if_icmp .ne 7, 3) := by decide +kernel
theorem dX9_isOfShard_11 : decode cX9_isOfShard 11 = .ok (.iconst 1, 1) := by decide +kernel
theorem dX9_isOfShard_12 : decode cX9_isOfShard 12 = .ok (.goto 4, 3) := by decide +kernel
theorem dX9_isOfShard_15 : decode cX9_isOfShard 15 = .ok (.iconst 0, 1) := by decide +kernel
theorem dX9_isOfShard_16 : decode cX9_isOfShard 16 = .ok (.ireturn, 1) := by decide +kernel
theorem dX9_scoreShard_0 : decode cX9_scoreShard 0 = .ok (.iconst 0, 1) := by decide +kernel
theorem dX9_scoreShard_1 : decode cX9_scoreShard 1 = .ok (.istore 5, 2) := by decide +kernel
theorem dX9_scoreShard_3 : decode cX9_scoreShard 3 = .ok (.iload 5, 2) := by decide +kernel
theorem dX9_scoreShard_5 : decode cX9_scoreShard 5 = .ok (.aload_n 0, 1) := by decide +kernel
theorem dX9_scoreShard_6 : decode cX9_scoreShard 6 = .ok (.getfield 12, 3) := by decide +kernel
theorem dX9_scoreShard_9 : decode cX9_scoreShard 9 = .ok (.invokevirtual 304, 3) := by decide +kernel
theorem dX9_scoreShard_12 : decode cX9_scoreShard 12 = .ok (.if_icmp .ge 48, 3) := by decide +kernel
theorem dX9_scoreShard_15 : decode cX9_scoreShard 15 = .ok (.iload 5, 2) := by decide +kernel
theorem dX9_scoreShard_17 : decode cX9_scoreShard 17 = .ok (.iload_n 3, 1) := by decide +kernel
theorem dX9_scoreShard_18 : decode cX9_scoreShard 18 = .ok (.iload 4, 2) := by decide +kernel
theorem dX9_scoreShard_20 : decode cX9_scoreShard 20 = .ok (.invokestatic 305, 3) := by decide +kernel
theorem dX9_scoreShard_23 : decode cX9_scoreShard 23 = .ok (.ifCond .eq 31, 3) := by decide +kernel
theorem dX9_scoreShard_26 : decode cX9_scoreShard 26 = .ok (.aload_n 2, 1) := by decide +kernel
theorem dX9_scoreShard_27 : decode cX9_scoreShard 27 = .ok (.iload 5, 2) := by decide +kernel
theorem dX9_scoreShard_29 : decode cX9_scoreShard 29 = .ok (.invokevirtual 309, 3) := by decide +kernel
theorem dX9_scoreShard_32 : decode cX9_scoreShard 32 = .ok (.ifCond .eq 22, 3) := by decide +kernel
theorem dX9_scoreShard_35 : decode cX9_scoreShard 35 = .ok (.aload_n 1, 1) := by decide +kernel
theorem dX9_scoreShard_36 : decode cX9_scoreShard 36 = .ok (.invokevirtual 314, 3) := by decide +kernel
theorem dX9_scoreShard_39 : decode cX9_scoreShard 39 = .ok (.aload_n 0, 1) := by decide +kernel
theorem dX9_scoreShard_40 : decode cX9_scoreShard 40 = .ok (.getfield 54, 3) := by decide +kernel
theorem dX9_scoreShard_43 : decode cX9_scoreShard 43 = .ok (.iload 5, 2) := by decide +kernel
theorem dX9_scoreShard_45 : decode cX9_scoreShard 45 = .ok (.aload_n 2, 1) := by decide +kernel
theorem dX9_scoreShard_46 : decode cX9_scoreShard 46 = .ok (.iload 5, 2) := by decide +kernel
theorem dX9_scoreShard_48 : decode cX9_scoreShard 48 = .ok (.invokevirtual 317, 3) := by decide +kernel
theorem dX9_scoreShard_51 : decode cX9_scoreShard 51 = .ok (.invokevirtual 320, 3) := by decide +kernel
theorem dX9_scoreShard_54 : decode cX9_scoreShard 54 = .ok (.iinc 5 1, 3) := by decide +kernel
theorem dX9_scoreShard_57 : decode cX9_scoreShard 57 = .ok (.goto (-54), 3) := by decide +kernel
theorem dX9_scoreShard_60 : decode cX9_scoreShard 60 = .ok (.return_, 1) := by decide +kernel
theorem dX9_pruneShard_0 : decode cX9_pruneShard 0 = .ok (.iconst 0, 1) := by decide +kernel
theorem dX9_pruneShard_1 : decode cX9_pruneShard 1 = .ok (.istore 4, 2) := by decide +kernel
theorem dX9_pruneShard_3 : decode cX9_pruneShard 3 = .ok (.iload 4, 2) := by decide +kernel
theorem dX9_pruneShard_5 : decode cX9_pruneShard 5 = .ok (.iconst 4, 1) := by decide +kernel
theorem dX9_pruneShard_6 : decode cX9_pruneShard 6 = .ok (.if_icmp .ge 58, 3) := by decide +kernel
theorem dX9_pruneShard_9 : decode cX9_pruneShard 9 = .ok (.aload_n 0, 1) := by decide +kernel
theorem dX9_pruneShard_10 : decode cX9_pruneShard 10 = .ok (.iload 4, 2) := by decide +kernel
theorem dX9_pruneShard_12 : decode cX9_pruneShard 12 = .ok (.iload_n 2, 1) := by decide +kernel
theorem dX9_pruneShard_13 : decode cX9_pruneShard 13 = .ok (.iload_n 3, 1) := by decide +kernel
theorem dX9_pruneShard_14 : decode cX9_pruneShard 14 = .ok (.invokevirtual 324, 3) := by decide +kernel
theorem dX9_pruneShard_17 : decode cX9_pruneShard 17 = .ok (.ifCond .ne 6, 3) := by decide +kernel
theorem dX9_pruneShard_20 : decode cX9_pruneShard 20 = .ok (.goto 38, 3) := by decide +kernel
theorem dX9_pruneShard_23 : decode cX9_pruneShard 23 = .ok (.aload_n 0, 1) := by decide +kernel
theorem dX9_pruneShard_24 : decode cX9_pruneShard 24 = .ok (.getfield 54, 3) := by decide +kernel
theorem dX9_pruneShard_27 : decode cX9_pruneShard 27 = .ok (.aload_n 0, 1) := by decide +kernel
theorem dX9_pruneShard_28 : decode cX9_pruneShard 28 = .ok (.getfield 38, 3) := by decide +kernel
theorem dX9_pruneShard_31 : decode cX9_pruneShard 31 = .ok (.iload 4, 2) := by decide +kernel
theorem dX9_pruneShard_33 : decode cX9_pruneShard 33 = .ok (.invokevirtual 327, 3) := by decide +kernel
theorem dX9_pruneShard_36 : decode cX9_pruneShard 36 = .ok (.invokevirtual 330, 3) := by decide +kernel
theorem dX9_pruneShard_39 : decode cX9_pruneShard 39 = .ok (.ifCond .eq 10, 3) := by decide +kernel
theorem dX9_pruneShard_42 : decode cX9_pruneShard 42 = .ok (.aload_n 1, 1) := by decide +kernel
theorem dX9_pruneShard_43 : decode cX9_pruneShard 43 = .ok (.invokevirtual 334, 3) := by decide +kernel
theorem dX9_pruneShard_46 : decode cX9_pruneShard 46 = .ok (.goto 12, 3) := by decide +kernel
theorem dX9_pruneShard_49 : decode cX9_pruneShard 49 = .ok (.aload_n 0, 1) := by decide +kernel
theorem dX9_pruneShard_50 : decode cX9_pruneShard 50 = .ok (.aload_n 1, 1) := by decide +kernel
theorem dX9_pruneShard_51 : decode cX9_pruneShard 51 = .ok (.iload 4, 2) := by decide +kernel
theorem dX9_pruneShard_53 : decode cX9_pruneShard 53 = .ok (.iload_n 2, 1) := by decide +kernel
theorem dX9_pruneShard_54 : decode cX9_pruneShard 54 = .ok (.iload_n 3, 1) := by decide +kernel
theorem dX9_pruneShard_55 : decode cX9_pruneShard 55 = .ok (.invokevirtual 337, 3) := by decide +kernel
theorem dX9_pruneShard_58 : decode cX9_pruneShard 58 = .ok (.iinc 4 1, 3) := by decide +kernel
theorem dX9_pruneShard_61 : decode cX9_pruneShard 61 = .ok (.goto (-58), 3) := by decide +kernel
theorem dX9_pruneShard_64 : decode cX9_pruneShard 64 = .ok (.return_, 1) := by decide +kernel
theorem dX9_endOfBlock_0 : decode cX9_endOfBlock 0 = .ok (.iload_n 1, 1) := by decide +kernel
theorem dX9_endOfBlock_1 : decode cX9_endOfBlock 1 = .ok (.iconst 1, 1) := by decide +kernel
theorem dX9_endOfBlock_2 : decode cX9_endOfBlock 2 = .ok (.iadd, 1) := by decide +kernel
theorem dX9_endOfBlock_3 : decode cX9_endOfBlock 3 = .ok (.iconst 4, 1) := by decide +kernel
theorem dX9_endOfBlock_4 : decode cX9_endOfBlock 4 = .ok (.imul, 1) := by decide +kernel
theorem dX9_endOfBlock_5 : decode cX9_endOfBlock 5 = .ok (.aload_n 0, 1) := by decide +kernel
theorem dX9_endOfBlock_6 : decode cX9_endOfBlock 6 = .ok (.getfield 12, 3) := by decide +kernel
theorem dX9_endOfBlock_9 : decode cX9_endOfBlock 9 = .ok (.invokevirtual 304, 3) := by decide +kernel
theorem dX9_endOfBlock_12 : decode cX9_endOfBlock 12 = .ok (.invokestatic 341, 3) := by decide +kernel
theorem dX9_endOfBlock_15 : decode cX9_endOfBlock 15 = .ok (.ireturn, 1) := by decide +kernel
theorem dX9_hasDocumentOfShard_0 : decode cX9_hasDocumentOfShard 0 = .ok (.aload_n 0, 1) := by decide +kernel
theorem dX9_hasDocumentOfShard_1 : decode cX9_hasDocumentOfShard 1 = .ok (.iload_n 1, 1) := by decide +kernel
theorem dX9_hasDocumentOfShard_2 : decode cX9_hasDocumentOfShard 2 = .ok (.invokevirtual 346, 3) := by decide +kernel
theorem dX9_hasDocumentOfShard_5 : decode cX9_hasDocumentOfShard 5 = .ok (.istore 4, 2) := by decide +kernel
theorem dX9_hasDocumentOfShard_7 : decode cX9_hasDocumentOfShard 7 = .ok (.iload_n 1, 1) := by decide +kernel
theorem dX9_hasDocumentOfShard_8 : decode cX9_hasDocumentOfShard 8 = .ok (.iconst 4, 1) := by decide +kernel
theorem dX9_hasDocumentOfShard_9 : decode cX9_hasDocumentOfShard 9 = .ok (.imul, 1) := by decide +kernel
theorem dX9_hasDocumentOfShard_10 : decode cX9_hasDocumentOfShard 10 = .ok (.istore 5, 2) := by decide +kernel
theorem dX9_hasDocumentOfShard_12 : decode cX9_hasDocumentOfShard 12 = .ok (.iload 5, 2) := by decide +kernel
theorem dX9_hasDocumentOfShard_14 : decode cX9_hasDocumentOfShard 14 = .ok (.iload 4, 2) := by decide +kernel
theorem dX9_hasDocumentOfShard_16 : decode cX9_hasDocumentOfShard 16 = .ok (.if_icmp .ge 21, 3) := by decide +kernel
theorem dX9_hasDocumentOfShard_19 : decode cX9_hasDocumentOfShard 19 = .ok (.iload 5, 2) := by decide +kernel
theorem dX9_hasDocumentOfShard_21 : decode cX9_hasDocumentOfShard 21 = .ok (.iload_n 2, 1) := by decide +kernel
theorem dX9_hasDocumentOfShard_22 : decode cX9_hasDocumentOfShard 22 = .ok (.iload_n 3, 1) := by decide +kernel
theorem dX9_hasDocumentOfShard_23 : decode cX9_hasDocumentOfShard 23 = .ok (.invokestatic 305, 3) := by decide +kernel
theorem dX9_hasDocumentOfShard_26 : decode cX9_hasDocumentOfShard 26 = .ok (.ifCond .eq 5, 3) := by decide +kernel
theorem dX9_hasDocumentOfShard_29 : decode cX9_hasDocumentOfShard 29 = .ok (.iconst 1, 1) := by decide +kernel
theorem dX9_hasDocumentOfShard_30 : decode cX9_hasDocumentOfShard 30 = .ok (.ireturn, 1) := by decide +kernel
theorem dX9_hasDocumentOfShard_31 : decode cX9_hasDocumentOfShard 31 = .ok (.iinc 5 1, 3) := by decide +kernel
theorem dX9_hasDocumentOfShard_34 : decode cX9_hasDocumentOfShard 34 = .ok (.goto (-22), 3) := by decide +kernel
theorem dX9_hasDocumentOfShard_37 : decode cX9_hasDocumentOfShard 37 = .ok (.iconst 0, 1) := by decide +kernel
theorem dX9_hasDocumentOfShard_38 : decode cX9_hasDocumentOfShard 38 = .ok (.ireturn, 1) := by decide +kernel
theorem dX9_pruneBlock_0 : decode cX9_pruneBlock 0 = .ok (.aload_n 0, 1) := by decide +kernel
theorem dX9_pruneBlock_1 : decode cX9_pruneBlock 1 = .ok (.iload_n 2, 1) := by decide +kernel
theorem dX9_pruneBlock_2 : decode cX9_pruneBlock 2 = .ok (.invokevirtual 346, 3) := by decide +kernel
theorem dX9_pruneBlock_5 : decode cX9_pruneBlock 5 = .ok (.istore 5, 2) := by decide +kernel
theorem dX9_pruneBlock_7 : decode cX9_pruneBlock 7 = .ok (.iload_n 2, 1) := by decide +kernel
theorem dX9_pruneBlock_8 : decode cX9_pruneBlock 8 = .ok (.iconst 4, 1) := by decide +kernel
theorem dX9_pruneBlock_9 : decode cX9_pruneBlock 9 = .ok (.imul, 1) := by decide +kernel
theorem dX9_pruneBlock_10 : decode cX9_pruneBlock 10 = .ok (.istore 6, 2) := by decide +kernel
theorem dX9_pruneBlock_12 : decode cX9_pruneBlock 12 = .ok (.iload 6, 2) := by decide +kernel
theorem dX9_pruneBlock_14 : decode cX9_pruneBlock 14 = .ok (.iload 5, 2) := by decide +kernel
theorem dX9_pruneBlock_16 : decode cX9_pruneBlock 16 = .ok (.if_icmp .ge 83, 3) := by decide +kernel
theorem dX9_pruneBlock_19 : decode cX9_pruneBlock 19 = .ok (.iload 6, 2) := by decide +kernel
theorem dX9_pruneBlock_21 : decode cX9_pruneBlock 21 = .ok (.iload_n 3, 1) := by decide +kernel
theorem dX9_pruneBlock_22 : decode cX9_pruneBlock 22 = .ok (.iload 4, 2) := by decide +kernel
theorem dX9_pruneBlock_24 : decode cX9_pruneBlock 24 = .ok (.invokestatic 305, 3) := by decide +kernel
theorem dX9_pruneBlock_27 : decode cX9_pruneBlock 27 = .ok (.ifCond .eq 66, 3) := by decide +kernel
theorem dX9_pruneBlock_30 : decode cX9_pruneBlock 30 = .ok (.aload_n 0, 1) := by decide +kernel
theorem dX9_pruneBlock_31 : decode cX9_pruneBlock 31 = .ok (.getfield 38, 3) := by decide +kernel
theorem dX9_pruneBlock_34 : decode cX9_pruneBlock 34 = .ok (.iload 6, 2) := by decide +kernel
theorem dX9_pruneBlock_36 : decode cX9_pruneBlock 36 = .ok (.invokevirtual 349, 3) := by decide +kernel
theorem dX9_pruneBlock_39 : decode cX9_pruneBlock 39 = .ok (.ifCond .ne 6, 3) := by decide +kernel
theorem dX9_pruneBlock_42 : decode cX9_pruneBlock 42 = .ok (.goto 51, 3) := by decide +kernel
theorem dX9_pruneBlock_45 : decode cX9_pruneBlock 45 = .ok (.aload_n 0, 1) := by decide +kernel
theorem dX9_pruneBlock_46 : decode cX9_pruneBlock 46 = .ok (.getfield 54, 3) := by decide +kernel
theorem dX9_pruneBlock_49 : decode cX9_pruneBlock 49 = .ok (.aload_n 0, 1) := by decide +kernel
theorem dX9_pruneBlock_50 : decode cX9_pruneBlock 50 = .ok (.getfield 38, 3) := by decide +kernel
theorem dX9_pruneBlock_53 : decode cX9_pruneBlock 53 = .ok (.iload 6, 2) := by decide +kernel
theorem dX9_pruneBlock_55 : decode cX9_pruneBlock 55 = .ok (.invokevirtual 350, 3) := by decide +kernel
theorem dX9_pruneBlock_58 : decode cX9_pruneBlock 58 = .ok (.invokevirtual 330, 3) := by decide +kernel
theorem dX9_pruneBlock_61 : decode cX9_pruneBlock 61 = .ok (.ifCond .eq 10, 3) := by decide +kernel
theorem dX9_pruneBlock_64 : decode cX9_pruneBlock 64 = .ok (.aload_n 1, 1) := by decide +kernel
theorem dX9_pruneBlock_65 : decode cX9_pruneBlock 65 = .ok (.invokevirtual 353, 3) := by decide +kernel
theorem dX9_pruneBlock_68 : decode cX9_pruneBlock 68 = .ok (.goto 25, 3) := by decide +kernel
theorem dX9_pruneBlock_71 : decode cX9_pruneBlock 71 = .ok (.aload_n 1, 1) := by decide +kernel
theorem dX9_pruneBlock_72 : decode cX9_pruneBlock 72 = .ok (.invokevirtual 314, 3) := by decide +kernel
theorem dX9_pruneBlock_75 : decode cX9_pruneBlock 75 = .ok (.aload_n 0, 1) := by decide +kernel
theorem dX9_pruneBlock_76 : decode cX9_pruneBlock 76 = .ok (.getfield 54, 3) := by decide +kernel
theorem dX9_pruneBlock_79 : decode cX9_pruneBlock 79 = .ok (.iload 6, 2) := by decide +kernel
theorem dX9_pruneBlock_81 : decode cX9_pruneBlock 81 = .ok (.aload_n 0, 1) := by decide +kernel
theorem dX9_pruneBlock_82 : decode cX9_pruneBlock 82 = .ok (.getfield 38, 3) := by decide +kernel
theorem dX9_pruneBlock_85 : decode cX9_pruneBlock 85 = .ok (.iload 6, 2) := by decide +kernel
theorem dX9_pruneBlock_87 : decode cX9_pruneBlock 87 = .ok (.invokevirtual 356, 3) := by decide +kernel
theorem dX9_pruneBlock_90 : decode cX9_pruneBlock 90 = .ok (.invokevirtual 320, 3) := by decide +kernel
theorem dX9_pruneBlock_93 : decode cX9_pruneBlock 93 = .ok (.iinc 6 1, 3) := by decide +kernel
theorem dX9_pruneBlock_96 : decode cX9_pruneBlock 96 = .ok (.goto (-84), 3) := by decide +kernel
theorem dX9_pruneBlock_99 : decode cX9_pruneBlock 99 = .ok (.return_, 1) := by decide +kernel
theorem dX9_logarithm_0 : decode cX9_logarithm 0 = .ok (.dload_n 0, 1) := by decide +kernel
theorem dX9_logarithm_1 : decode cX9_logarithm 1 = .ok (.dstore_n 2, 1) := by decide +kernel
theorem dX9_logarithm_2 : decode cX9_logarithm 2 = .ok (.iconst 0, 1) := by decide +kernel
theorem dX9_logarithm_3 : decode cX9_logarithm 3 = .ok (.istore 4, 2) := by decide +kernel
theorem dX9_logarithm_5 : decode cX9_logarithm 5 = .ok (.dload_n 2, 1) := by decide +kernel
theorem dX9_logarithm_6 : decode cX9_logarithm 6 = .ok (.ldc2_w 357, 3) := by decide +kernel
theorem dX9_logarithm_9 : decode cX9_logarithm 9 = .ok (.dcmp .l, 1) := by decide +kernel
theorem dX9_logarithm_10 : decode cX9_logarithm 10 = .ok (.ifCond .lt 23, 3) := by decide +kernel
theorem dX9_logarithm_13 : decode cX9_logarithm 13 = .ok (.iload 4, 2) := by decide +kernel
theorem dX9_logarithm_15 : decode cX9_logarithm 15 = .ok (.sipush 1100, 3) := by decide +kernel
theorem dX9_logarithm_18 : decode cX9_logarithm 18 = .ok (.if_icmp .ge 15, 3) := by decide +kernel
theorem dX9_logarithm_21 : decode cX9_logarithm 21 = .ok (.dload_n 2, 1) := by decide +kernel
theorem dX9_logarithm_22 : decode cX9_logarithm 22 = .ok (.ldc2_w 357, 3) := by decide +kernel
theorem dX9_logarithm_25 : decode cX9_logarithm 25 = .ok (.ddiv, 1) := by decide +kernel
theorem dX9_logarithm_26 : decode cX9_logarithm 26 = .ok (.dstore_n 2, 1) := by decide +kernel
theorem dX9_logarithm_27 : decode cX9_logarithm 27 = .ok (.iinc 4 1, 3) := by decide +kernel
theorem dX9_logarithm_30 : decode cX9_logarithm 30 = .ok (.goto (-25), 3) := by decide +kernel
theorem dX9_logarithm_33 : decode cX9_logarithm 33 = .ok (.dload_n 2, 1) := by decide +kernel
theorem dX9_logarithm_34 : decode cX9_logarithm 34 = .ok (.dconst 1, 1) := by decide +kernel
theorem dX9_logarithm_35 : decode cX9_logarithm 35 = .ok (.dsub, 1) := by decide +kernel
theorem dX9_logarithm_36 : decode cX9_logarithm 36 = .ok (.dload_n 2, 1) := by decide +kernel
theorem dX9_logarithm_37 : decode cX9_logarithm 37 = .ok (.dconst 1, 1) := by decide +kernel
theorem dX9_logarithm_38 : decode cX9_logarithm 38 = .ok (.dadd, 1) := by decide +kernel
theorem dX9_logarithm_39 : decode cX9_logarithm 39 = .ok (.ddiv, 1) := by decide +kernel
theorem dX9_logarithm_40 : decode cX9_logarithm 40 = .ok (.dstore 5, 2) := by decide +kernel
theorem dX9_logarithm_42 : decode cX9_logarithm 42 = .ok (.dload 5, 2) := by decide +kernel
theorem dX9_logarithm_44 : decode cX9_logarithm 44 = .ok (.dstore 7, 2) := by decide +kernel
theorem dX9_logarithm_46 : decode cX9_logarithm 46 = .ok (.dconst 0, 1) := by decide +kernel
theorem dX9_logarithm_47 : decode cX9_logarithm 47 = .ok (.dstore 9, 2) := by decide +kernel
theorem dX9_logarithm_49 : decode cX9_logarithm 49 = .ok (.iconst 1, 1) := by decide +kernel
theorem dX9_logarithm_50 : decode cX9_logarithm 50 = .ok (.istore 11, 2) := by decide +kernel
theorem dX9_logarithm_52 : decode cX9_logarithm 52 = .ok (.iload 11, 2) := by decide +kernel
theorem dX9_logarithm_54 : decode cX9_logarithm 54 = .ok (.bipush 19, 2) := by decide +kernel
theorem dX9_logarithm_56 : decode cX9_logarithm 56 = .ok (.if_icmp .gt 30, 3) := by decide +kernel
theorem dX9_logarithm_59 : decode cX9_logarithm 59 = .ok (.dload 9, 2) := by decide +kernel
theorem dX9_logarithm_61 : decode cX9_logarithm 61 = .ok (.dload 7, 2) := by decide +kernel
theorem dX9_logarithm_63 : decode cX9_logarithm 63 = .ok (.iload 11, 2) := by decide +kernel
theorem dX9_logarithm_65 : decode cX9_logarithm 65 = .ok (.i2d, 1) := by decide +kernel
theorem dX9_logarithm_66 : decode cX9_logarithm 66 = .ok (.ddiv, 1) := by decide +kernel
theorem dX9_logarithm_67 : decode cX9_logarithm 67 = .ok (.dadd, 1) := by decide +kernel
theorem dX9_logarithm_68 : decode cX9_logarithm 68 = .ok (.dstore 9, 2) := by decide +kernel
theorem dX9_logarithm_70 : decode cX9_logarithm 70 = .ok (.dload 7, 2) := by decide +kernel
theorem dX9_logarithm_72 : decode cX9_logarithm 72 = .ok (.dload 5, 2) := by decide +kernel
theorem dX9_logarithm_74 : decode cX9_logarithm 74 = .ok (.dload 5, 2) := by decide +kernel
theorem dX9_logarithm_76 : decode cX9_logarithm 76 = .ok (.dmul, 1) := by decide +kernel
theorem dX9_logarithm_77 : decode cX9_logarithm 77 = .ok (.dmul, 1) := by decide +kernel
theorem dX9_logarithm_78 : decode cX9_logarithm 78 = .ok (.dstore 7, 2) := by decide +kernel
theorem dX9_logarithm_80 : decode cX9_logarithm 80 = .ok (.iinc 11 2, 3) := by decide +kernel
theorem dX9_logarithm_83 : decode cX9_logarithm 83 = .ok (.goto (-31), 3) := by decide +kernel
theorem dX9_logarithm_86 : decode cX9_logarithm 86 = .ok (.ldc2_w 357, 3) := by decide +kernel
theorem dX9_logarithm_89 : decode cX9_logarithm 89 = .ok (.dload 9, 2) := by decide +kernel
theorem dX9_logarithm_91 : decode cX9_logarithm 91 = .ok (.dmul, 1) := by decide +kernel
theorem dX9_logarithm_92 : decode cX9_logarithm 92 = .ok (.iload 4, 2) := by decide +kernel
theorem dX9_logarithm_94 : decode cX9_logarithm 94 = .ok (.i2d, 1) := by decide +kernel
theorem dX9_logarithm_95 : decode cX9_logarithm 95 = .ok (.ldc2_w 359, 3) := by decide +kernel
theorem dX9_logarithm_98 : decode cX9_logarithm 98 = .ok (.dmul, 1) := by decide +kernel
theorem dX9_logarithm_99 : decode cX9_logarithm 99 = .ok (.dadd, 1) := by decide +kernel
theorem dX9_logarithm_100 : decode cX9_logarithm 100 = .ok (.dreturn, 1) := by decide +kernel
theorem dX9_inverseFrequency_0 : decode cX9_inverseFrequency 0 = .ok (.dconst 1, 1) := by decide +kernel
theorem dX9_inverseFrequency_1 : decode cX9_inverseFrequency 1 = .ok (.iload_n 0, 1) := by decide +kernel
theorem dX9_inverseFrequency_2 : decode cX9_inverseFrequency 2 = .ok (.iload_n 1, 1) := by decide +kernel
theorem dX9_inverseFrequency_3 : decode cX9_inverseFrequency 3 = .ok (.isub, 1) := by decide +kernel
theorem dX9_inverseFrequency_4 : decode cX9_inverseFrequency 4 = .ok (.i2d, 1) := by decide +kernel
theorem dX9_inverseFrequency_5 : decode cX9_inverseFrequency 5 = .ok (.ldc2_w 361, 3) := by decide +kernel
theorem dX9_inverseFrequency_8 : decode cX9_inverseFrequency 8 = .ok (.dadd, 1) := by decide +kernel
theorem dX9_inverseFrequency_9 : decode cX9_inverseFrequency 9 = .ok (.iload_n 1, 1) := by decide +kernel
theorem dX9_inverseFrequency_10 : decode cX9_inverseFrequency 10 = .ok (.i2d, 1) := by decide +kernel
theorem dX9_inverseFrequency_11 : decode cX9_inverseFrequency 11 = .ok (.ldc2_w 361, 3) := by decide +kernel
theorem dX9_inverseFrequency_14 : decode cX9_inverseFrequency 14 = .ok (.dadd, 1) := by decide +kernel
theorem dX9_inverseFrequency_15 : decode cX9_inverseFrequency 15 = .ok (.ddiv, 1) := by decide +kernel
theorem dX9_inverseFrequency_16 : decode cX9_inverseFrequency 16 = .ok (.dadd, 1) := by decide +kernel
theorem dX9_inverseFrequency_17 : decode cX9_inverseFrequency 17 = .ok (.invokestatic 245, 3) := by decide +kernel
theorem dX9_inverseFrequency_20 : decode cX9_inverseFrequency 20 = .ok (.dreturn, 1) := by decide +kernel
theorem dX9_wordPart_0 : decode cX9_wordPart 0 = .ok (.iload_n 2, 1) := by decide +kernel
theorem dX9_wordPart_1 : decode cX9_wordPart 1 = .ok (.ifCond .le 10, 3) := by decide +kernel
theorem dX9_wordPart_4 : decode cX9_wordPart 4 = .ok (.dload 4, 2) := by decide +kernel
theorem dX9_wordPart_6 : decode cX9_wordPart 6 = .ok (.dconst 0, 1) := by decide +kernel
theorem dX9_wordPart_7 : decode cX9_wordPart 7 = .ok (.dcmp .l, 1) := by decide +kernel
theorem dX9_wordPart_8 : decode cX9_wordPart 8 = .ok (.ifCond .gt 5, 3) := by decide +kernel
theorem dX9_wordPart_11 : decode cX9_wordPart 11 = .ok (.dconst 0, 1) := by decide +kernel
theorem dX9_wordPart_12 : decode cX9_wordPart 12 = .ok (.dreturn, 1) := by decide +kernel
theorem dX9_wordPart_13 : decode cX9_wordPart 13 = .ok (.ldc2_w 363, 3) := by decide +kernel
theorem dX9_wordPart_16 : decode cX9_wordPart 16 = .ok (.dstore 6, 2) := by decide +kernel
theorem dX9_wordPart_18 : decode cX9_wordPart 18 = .ok (.ldc2_w 365, 3) := by decide +kernel
theorem dX9_wordPart_21 : decode cX9_wordPart 21 = .ok (.dstore 8, 2) := by decide +kernel
theorem dX9_wordPart_23 : decode cX9_wordPart 23 = .ok (.dload_n 0, 1) := by decide +kernel
theorem dX9_wordPart_24 : decode cX9_wordPart 24 = .ok (.iload_n 2, 1) := by decide +kernel
theorem dX9_wordPart_25 : decode cX9_wordPart 25 = .ok (.i2d, 1) := by decide +kernel
theorem dX9_wordPart_26 : decode cX9_wordPart 26 = .ok (.dload 6, 2) := by decide +kernel
theorem dX9_wordPart_28 : decode cX9_wordPart 28 = .ok (.dconst 1, 1) := by decide +kernel
theorem dX9_wordPart_29 : decode cX9_wordPart 29 = .ok (.dadd, 1) := by decide +kernel
theorem dX9_wordPart_30 : decode cX9_wordPart 30 = .ok (.dmul, 1) := by decide +kernel
theorem dX9_wordPart_31 : decode cX9_wordPart 31 = .ok (.dmul, 1) := by decide +kernel
theorem dX9_wordPart_32 : decode cX9_wordPart 32 = .ok (.iload_n 2, 1) := by decide +kernel
theorem dX9_wordPart_33 : decode cX9_wordPart 33 = .ok (.i2d, 1) := by decide +kernel
theorem dX9_wordPart_34 : decode cX9_wordPart 34 = .ok (.dload 6, 2) := by decide +kernel
theorem dX9_wordPart_36 : decode cX9_wordPart 36 = .ok (.dconst 1, 1) := by decide +kernel
theorem dX9_wordPart_37 : decode cX9_wordPart 37 = .ok (.dload 8, 2) := by decide +kernel
theorem dX9_wordPart_39 : decode cX9_wordPart 39 = .ok (.dsub, 1) := by decide +kernel
theorem dX9_wordPart_40 : decode cX9_wordPart 40 = .ok (.dload 8, 2) := by decide +kernel
theorem dX9_wordPart_42 : decode cX9_wordPart 42 = .ok (.iload_n 3, 1) := by decide +kernel
theorem dX9_wordPart_43 : decode cX9_wordPart 43 = .ok (.i2d, 1) := by decide +kernel
theorem dX9_wordPart_44 : decode cX9_wordPart 44 = .ok (.dload 4, 2) := by decide +kernel
theorem dX9_wordPart_46 : decode cX9_wordPart 46 = .ok (.ddiv, 1) := by decide +kernel
theorem dX9_wordPart_47 : decode cX9_wordPart 47 = .ok (.dmul, 1) := by decide +kernel
theorem dX9_wordPart_48 : decode cX9_wordPart 48 = .ok (.dadd, 1) := by decide +kernel
theorem dX9_wordPart_49 : decode cX9_wordPart 49 = .ok (.dmul, 1) := by decide +kernel
theorem dX9_wordPart_50 : decode cX9_wordPart 50 = .ok (.dadd, 1) := by decide +kernel
theorem dX9_wordPart_51 : decode cX9_wordPart 51 = .ok (.ddiv, 1) := by decide +kernel
theorem dX9_wordPart_52 : decode cX9_wordPart 52 = .ok (.dreturn, 1) := by decide +kernel
theorem dX9_greater_0 : decode cX9_greater 0 = .ok (.fload_n 0, 1) := by decide +kernel
theorem dX9_greater_1 : decode cX9_greater 1 = .ok (.fload_n 1, 1) := by decide +kernel
theorem dX9_greater_2 : decode cX9_greater 2 = .ok (.fcmp .l, 1) := by decide +kernel
theorem dX9_greater_3 : decode cX9_greater 3 = .ok (.ifCond .le 5, 3) := by decide +kernel
theorem dX9_greater_6 : decode cX9_greater 6 = .ok (.fload_n 0, 1) := by decide +kernel
theorem dX9_greater_7 : decode cX9_greater 7 = .ok (.freturn, 1) := by decide +kernel
theorem dX9_greater_8 : decode cX9_greater 8 = .ok (.fload_n 1, 1) := by decide +kernel
theorem dX9_greater_9 : decode cX9_greater 9 = .ok (.fload_n 0, 1) := by decide +kernel
theorem dX9_greater_10 : decode cX9_greater 10 = .ok (.fcmp .l, 1) := by decide +kernel
theorem dX9_greater_11 : decode cX9_greater 11 = .ok (.ifCond .le 5, 3) := by decide +kernel
theorem dX9_greater_14 : decode cX9_greater 14 = .ok (.fload_n 1, 1) := by decide +kernel
theorem dX9_greater_15 : decode cX9_greater 15 = .ok (.freturn, 1) := by decide +kernel
theorem dX9_greater_16 : decode cX9_greater 16 = .ok (.fload_n 0, 1) := by decide +kernel
theorem dX9_greater_17 : decode cX9_greater 17 = .ok (.fconst 0, 1) := by decide +kernel
theorem dX9_greater_18 : decode cX9_greater 18 = .ok (.fcmp .l, 1) := by decide +kernel
theorem dX9_greater_19 : decode cX9_greater 19 = .ok (.ifCond .ne 9, 3) := by decide +kernel
theorem dX9_greater_22 : decode cX9_greater 22 = .ok (.fload_n 0, 1) := by decide +kernel
theorem dX9_greater_23 : decode cX9_greater 23 = .ok (.fload_n 1, 1) := by decide +kernel
theorem dX9_greater_24 : decode cX9_greater 24 = .ok (.fadd, 1) := by decide +kernel
theorem dX9_greater_25 : decode cX9_greater 25 = .ok (.goto 4, 3) := by decide +kernel
theorem dX9_greater_28 : decode cX9_greater 28 = .ok (.fload_n 0, 1) := by decide +kernel
theorem dX9_greater_29 : decode cX9_greater 29 = .ok (.freturn, 1) := by decide +kernel
theorem dX10_init_0 : decode cX10_init 0 = .ok (.aload_n 0, 1) := by decide +kernel
theorem dX10_init_1 : decode cX10_init 1 = .ok (.invokespecial 1, 3) := by decide +kernel
theorem dX10_init_4 : decode cX10_init 4 = .ok (.aload_n 0, 1) := by decide +kernel
theorem dX10_init_5 : decode cX10_init 5 = .ok (.sipush 192, 3) := by decide +kernel
theorem dX10_init_8 : decode cX10_init 8 = .ok (.newarray .int, 2) := by decide +kernel
theorem dX10_init_10 : decode cX10_init 10 = .ok (.putfield 7, 3) := by decide +kernel
theorem dX10_init_13 : decode cX10_init 13 = .ok (.aload_n 0, 1) := by decide +kernel
theorem dX10_init_14 : decode cX10_init 14 = .ok (.sipush 192, 3) := by decide +kernel
theorem dX10_init_17 : decode cX10_init 17 = .ok (.newarray .float, 2) := by decide +kernel
theorem dX10_init_19 : decode cX10_init 19 = .ok (.putfield 13, 3) := by decide +kernel
theorem dX10_init_22 : decode cX10_init 22 = .ok (.aload_n 0, 1) := by decide +kernel
theorem dX10_init_23 : decode cX10_init 23 = .ok (.bipush 16, 2) := by decide +kernel
theorem dX10_init_25 : decode cX10_init 25 = .ok (.newarray .int, 2) := by decide +kernel
theorem dX10_init_27 : decode cX10_init 27 = .ok (.putfield 17, 3) := by decide +kernel
theorem dX10_init_30 : decode cX10_init 30 = .ok (.aload_n 0, 1) := by decide +kernel
theorem dX10_init_31 : decode cX10_init 31 = .ok (.sipush 256, 3) := by decide +kernel
theorem dX10_init_34 : decode cX10_init 34 = .ok (.newarray .float, 2) := by decide +kernel
theorem dX10_init_36 : decode cX10_init 36 = .ok (.putfield 20, 3) := by decide +kernel
theorem dX10_init_39 : decode cX10_init 39 = .ok (.aload_n 0, 1) := by decide +kernel
theorem dX10_init_40 : decode cX10_init 40 = .ok (.bipush 16, 2) := by decide +kernel
theorem dX10_init_42 : decode cX10_init 42 = .ok (.newarray .float, 2) := by decide +kernel
theorem dX10_init_44 : decode cX10_init 44 = .ok (.putfield 23, 3) := by decide +kernel
theorem dX10_init_47 : decode cX10_init 47 = .ok (.aload_n 0, 1) := by decide +kernel
theorem dX10_init_48 : decode cX10_init 48 = .ok (.iconst 4, 1) := by decide +kernel
theorem dX10_init_49 : decode cX10_init 49 = .ok (.newarray .int, 2) := by decide +kernel
theorem dX10_init_51 : decode cX10_init 51 = .ok (.putfield 26, 3) := by decide +kernel
theorem dX10_init_54 : decode cX10_init 54 = .ok (.aload_n 0, 1) := by decide +kernel
theorem dX10_init_55 : decode cX10_init 55 = .ok (.iconst 4, 1) := by decide +kernel
theorem dX10_init_56 : decode cX10_init 56 = .ok (.newarray .int, 2) := by decide +kernel
theorem dX10_init_58 : decode cX10_init 58 = .ok (.putfield 29, 3) := by decide +kernel
theorem dX10_init_61 : decode cX10_init 61 = .ok (.aload_n 0, 1) := by decide +kernel
theorem dX10_init_62 : decode cX10_init 62 = .ok (.iconst 4, 1) := by decide +kernel
theorem dX10_init_63 : decode cX10_init 63 = .ok (.newarray .int, 2) := by decide +kernel
theorem dX10_init_65 : decode cX10_init 65 = .ok (.putfield 32, 3) := by decide +kernel
theorem dX10_init_68 : decode cX10_init 68 = .ok (.aload_n 0, 1) := by decide +kernel
theorem dX10_init_69 : decode cX10_init 69 = .ok (.bipush 12, 2) := by decide +kernel
theorem dX10_init_71 : decode cX10_init 71 = .ok (.newarray .float, 2) := by decide +kernel
theorem dX10_init_73 : decode cX10_init 73 = .ok (.putfield 35, 3) := by decide +kernel
theorem dX10_init_76 : decode cX10_init 76 = .ok (.aload_n 0, 1) := by decide +kernel
theorem dX10_init_77 : decode cX10_init 77 = .ok (.iconst 3, 1) := by decide +kernel
theorem dX10_init_78 : decode cX10_init 78 = .ok (.newarray .boolean, 2) := by decide +kernel
theorem dX10_init_80 : decode cX10_init 80 = .ok (.putfield 38, 3) := by decide +kernel
theorem dX10_init_83 : decode cX10_init 83 = .ok (.aload_n 0, 1) := by decide +kernel
theorem dX10_init_84 : decode cX10_init 84 = .ok (.iconst 3, 1) := by decide +kernel
theorem dX10_init_85 : decode cX10_init 85 = .ok (.newarray .int, 2) := by decide +kernel
theorem dX10_init_87 : decode cX10_init 87 = .ok (.putfield 42, 3) := by decide +kernel
theorem dX10_init_90 : decode cX10_init 90 = .ok (.aload_n 0, 1) := by decide +kernel
theorem dX10_init_91 : decode cX10_init 91 = .ok (.bipush 60, 2) := by decide +kernel
theorem dX10_init_93 : decode cX10_init 93 = .ok (.newarray .int, 2) := by decide +kernel
theorem dX10_init_95 : decode cX10_init 95 = .ok (.putfield 45, 3) := by decide +kernel
theorem dX10_init_98 : decode cX10_init 98 = .ok (.aload_n 0, 1) := by decide +kernel
theorem dX10_init_99 : decode cX10_init 99 = .ok (.bipush 60, 2) := by decide +kernel
theorem dX10_init_101 : decode cX10_init 101 = .ok (.newarray .double, 2) := by decide +kernel
theorem dX10_init_103 : decode cX10_init 103 = .ok (.putfield 48, 3) := by decide +kernel
theorem dX10_init_106 : decode cX10_init 106 = .ok (.aload_n 0, 1) := by decide +kernel
theorem dX10_init_107 : decode cX10_init 107 = .ok (.bipush 9, 2) := by decide +kernel
theorem dX10_init_109 : decode cX10_init 109 = .ok (.newarray .int, 2) := by decide +kernel
theorem dX10_init_111 : decode cX10_init 111 = .ok (.putfield 52, 3) := by decide +kernel
theorem dX10_init_114 : decode cX10_init 114 = .ok (.aload_n 0, 1) := by decide +kernel
theorem dX10_init_115 : decode cX10_init 115 = .ok (.bipush 21, 2) := by decide +kernel
theorem dX10_init_117 : decode cX10_init 117 = .ok (.newarray .int, 2) := by decide +kernel
theorem dX10_init_119 : decode cX10_init 119 = .ok (.putfield 55, 3) := by decide +kernel
theorem dX10_init_122 : decode cX10_init 122 = .ok (.aload_n 0, 1) := by decide +kernel
theorem dX10_init_123 : decode cX10_init 123 = .ok (.bipush 21, 2) := by decide +kernel
theorem dX10_init_125 : decode cX10_init 125 = .ok (.newarray .double, 2) := by decide +kernel
theorem dX10_init_127 : decode cX10_init 127 = .ok (.putfield 58, 3) := by decide +kernel
theorem dX10_init_130 : decode cX10_init 130 = .ok (.aload_n 0, 1) := by decide +kernel
theorem dX10_init_131 : decode cX10_init 131 = .ok (.bipush 21, 2) := by decide +kernel
theorem dX10_init_133 : decode cX10_init 133 = .ok (.newarray .int, 2) := by decide +kernel
theorem dX10_init_135 : decode cX10_init 135 = .ok (.putfield 61, 3) := by decide +kernel
theorem dX10_init_138 : decode cX10_init 138 = .ok (.aload_n 0, 1) := by decide +kernel
theorem dX10_init_139 : decode cX10_init 139 = .ok (.bipush 21, 2) := by decide +kernel
theorem dX10_init_141 : decode cX10_init 141 = .ok (.newarray .double, 2) := by decide +kernel
theorem dX10_init_143 : decode cX10_init 143 = .ok (.putfield 64, 3) := by decide +kernel
theorem dX10_init_146 : decode cX10_init 146 = .ok (.aload_n 0, 1) := by decide +kernel
theorem dX10_init_147 : decode cX10_init 147 = .ok (.bipush 17, 2) := by decide +kernel
theorem dX10_init_149 : decode cX10_init 149 = .ok (.newarray .int, 2) := by decide +kernel
theorem dX10_init_151 : decode cX10_init 151 = .ok (.putfield 67, 3) := by decide +kernel
theorem dX10_init_154 : decode cX10_init 154 = .ok (.aload_n 0, 1) := by decide +kernel
theorem dX10_init_155 : decode cX10_init 155 = .ok (.bipush 17, 2) := by decide +kernel
theorem dX10_init_157 : decode cX10_init 157 = .ok (.newarray .double, 2) := by decide +kernel
theorem dX10_init_159 : decode cX10_init 159 = .ok (.putfield 70, 3) := by decide +kernel
theorem dX10_init_162 : decode cX10_init 162 = .ok (.return_, 1) := by decide +kernel
theorem dX10_thrown_0 : decode cX10_thrown 0 = .ok (.aload_n 0, 1) := by decide +kernel
theorem dX10_thrown_1 : decode cX10_thrown 1 = .ok (.getfield 73, 3) := by decide +kernel
theorem dX10_thrown_4 : decode cX10_thrown 4 = .ok (.ireturn, 1) := by decide +kernel
theorem dX10_fail_0 : decode cX10_fail 0 = .ok (.aload_n 0, 1) := by decide +kernel
theorem dX10_fail_1 : decode cX10_fail 1 = .ok (.iload_n 1, 1) := by decide +kernel
theorem dX10_fail_2 : decode cX10_fail 2 = .ok (.putfield 73, 3) := by decide +kernel
theorem dX10_fail_5 : decode cX10_fail 5 = .ok (.iconst 0, 1) := by decide +kernel
theorem dX10_fail_6 : decode cX10_fail 6 = .ok (.ireturn, 1) := by decide +kernel
theorem dX10_outside_0 : decode cX10_outside 0 = .ok (.iload_n 0, 1) := by decide +kernel
theorem dX10_outside_1 : decode cX10_outside 1 = .ok (.ifCond .lt 8, 3) := by decide +kernel
theorem dX10_outside_4 : decode cX10_outside 4 = .ok (.iload_n 0, 1) := by decide +kernel
theorem dX10_outside_5 : decode cX10_outside 5 = .ok (.iload_n 1, 1) := by decide +kernel
theorem dX10_outside_6 : decode cX10_outside 6 = .ok (.if_icmp .lt 7, 3) := by decide +kernel
theorem dX10_outside_9 : decode cX10_outside 9 = .ok (.iconst 1, 1) := by decide +kernel
theorem dX10_outside_10 : decode cX10_outside 10 = .ok (.goto 4, 3) := by decide +kernel
theorem dX10_outside_13 : decode cX10_outside 13 = .ok (.iconst 0, 1) := by decide +kernel
theorem dX10_outside_14 : decode cX10_outside 14 = .ok (.ireturn, 1) := by decide +kernel
theorem dX10_isGood_0 : decode cX10_isGood 0 = .ok (.fload_n 0, 1) := by decide +kernel
theorem dX10_isGood_1 : decode cX10_isGood 1 = .ok (.ldc 77, 2) := by decide +kernel
theorem dX10_isGood_3 : decode cX10_isGood 3 = .ok (.fcmp .l, 1) := by decide +kernel
theorem dX10_isGood_4 : decode cX10_isGood 4 = .ok (.ifCond .lt 14, 3) := by decide +kernel
theorem dX10_isGood_7 : decode cX10_isGood 7 = .ok (.fload_n 0, 1) := by decide +kernel
theorem dX10_isGood_8 : decode cX10_isGood 8 = .ok (.ldc 78, 2) := by decide +kernel
theorem dX10_isGood_10 : decode cX10_isGood 10 = .ok (.fcmp .g, 1) := by decide +kernel
theorem dX10_isGood_11 : decode cX10_isGood 11 = .ok (.ifCond .gt 7, 3) := by decide +kernel
theorem dX10_isGood_14 : decode cX10_isGood 14 = .ok (.iconst 1, 1) := by decide +kernel
theorem dX10_isGood_15 : decode cX10_isGood 15 = .ok (.goto 4, 3) := by decide +kernel
theorem dX10_isGood_18 : decode cX10_isGood 18 = .ok (.iconst 0, 1) := by decide +kernel
theorem dX10_isGood_19 : decode cX10_isGood 19 = .ok (.ireturn, 1) := by decide +kernel
theorem dX10_lose_0 : decode cX10_lose 0 = .ok (.aload_n 0, 1) := by decide +kernel
theorem dX10_lose_1 : decode cX10_lose 1 = .ok (.iconst 0, 1) := by decide +kernel
theorem dX10_lose_2 : decode cX10_lose 2 = .ok (.putfield 79, 3) := by decide +kernel
theorem dX10_lose_5 : decode cX10_lose 5 = .ok (.aload_n 0, 1) := by decide +kernel
theorem dX10_lose_6 : decode cX10_lose 6 = .ok (.getfield 38, 3) := by decide +kernel
theorem dX10_lose_9 : decode cX10_lose 9 = .ok (.iload_n 1, 1) := by decide +kernel
theorem dX10_lose_10 : decode cX10_lose 10 = .ok (.iconst 0, 1) := by decide +kernel
theorem dX10_lose_11 : decode cX10_lose 11 = .ok (.bastore, 1) := by decide +kernel
theorem dX10_lose_12 : decode cX10_lose 12 = .ok (.return_, 1) := by decide +kernel
theorem dX10_loseAll_0 : decode cX10_loseAll 0 = .ok (.iconst 0, 1) := by decide +kernel
theorem dX10_loseAll_1 : decode cX10_loseAll 1 = .ok (.istore_n 1, 1) := by decide +kernel
theorem dX10_loseAll_2 : decode cX10_loseAll 2 = .ok (.iload_n 1, 1) := by decide +kernel
theorem dX10_loseAll_3 : decode cX10_loseAll 3 = .ok (.iconst 3, 1) := by decide +kernel
theorem dX10_loseAll_4 : decode cX10_loseAll 4 = .ok (.if_icmp .ge 14, 3) := by decide +kernel
theorem dX10_loseAll_7 : decode cX10_loseAll 7 = .ok (.aload_n 0, 1) := by decide +kernel
theorem dX10_loseAll_8 : decode cX10_loseAll 8 = .ok (.iload_n 1, 1) := by decide +kernel
theorem dX10_loseAll_9 : decode cX10_loseAll 9 = .ok (.invokevirtual 82, 3) := by decide +kernel
theorem dX10_loseAll_12 : decode cX10_loseAll 12 = .ok (.iinc 1 1, 3) := by decide +kernel
theorem dX10_loseAll_15 : decode cX10_loseAll 15 = .ok (.goto (-13), 3) := by decide +kernel
theorem dX10_loseAll_18 : decode cX10_loseAll 18 = .ok (.return_, 1) := by decide +kernel
theorem dX10_document_0 : decode cX10_document 0 = .ok (.aload_n 0, 1) := by decide +kernel
theorem dX10_document_1 : decode cX10_document 1 = .ok (.aload_n 0, 1) := by decide +kernel
theorem dX10_document_2 : decode cX10_document 2 = .ok (.getfield 86, 3) := by decide +kernel
theorem dX10_document_5 : decode cX10_document 5 = .ok (.bipush 16, 2) := by decide +kernel
theorem dX10_document_7 : decode cX10_document 7 = .ok (.if_icmp .ne 7, 3) := by decide +kernel
theorem dX10_document_10 : decode cX10_document 10 = .ok (.iconst 1, 1) := by decide +kernel
theorem dX10_document_11 : decode cX10_document 11 = .ok (.goto 4, 3) := by decide +kernel
theorem dX10_document_14 : decode cX10_document 14 = .ok (.iconst 0, 1) := by decide +kernel
theorem dX10_document_15 : decode cX10_document 15 = .ok (.putfield 73, 3) := by decide +kernel
theorem dX10_document_18 : decode cX10_document 18 = .ok (.aload_n 0, 1) := by decide +kernel
theorem dX10_document_19 : decode cX10_document 19 = .ok (.getfield 73, 3) := by decide +kernel
theorem dX10_document_22 : decode cX10_document 22 = .ok (.ifCond .le 5, 3) := by decide +kernel
theorem dX10_document_25 : decode cX10_document 25 = .ok (.iconst 0, 1) := by decide +kernel
theorem dX10_document_26 : decode cX10_document 26 = .ok (.ireturn, 1) := by decide +kernel
theorem dX10_document_27 : decode cX10_document 27 = .ok (.aload_n 0, 1) := by decide +kernel
theorem dX10_document_28 : decode cX10_document 28 = .ok (.dup, 1) := by decide +kernel
theorem dX10_document_29 : decode cX10_document 29 = .ok (.getfield 86, 3) := by decide +kernel
theorem dX10_document_32 : decode cX10_document 32 = .ok (.iconst 1, 1) := by decide +kernel
theorem dX10_document_33 : decode cX10_document 33 = .ok (.iadd, 1) := by decide +kernel
theorem dX10_document_34 : decode cX10_document 34 = .ok (.putfield 86, 3) := by decide +kernel
theorem dX10_document_37 : decode cX10_document 37 = .ok (.aload_n 0, 1) := by decide +kernel
theorem dX10_document_38 : decode cX10_document 38 = .ok (.invokevirtual 89, 3) := by decide +kernel
theorem dX10_document_41 : decode cX10_document 41 = .ok (.aload_n 0, 1) := by decide +kernel
theorem dX10_document_42 : decode cX10_document 42 = .ok (.getfield 86, 3) := by decide +kernel
theorem dX10_document_45 : decode cX10_document 45 = .ok (.iconst 1, 1) := by decide +kernel
theorem dX10_document_46 : decode cX10_document 46 = .ok (.isub, 1) := by decide +kernel
theorem dX10_document_47 : decode cX10_document 47 = .ok (.ireturn, 1) := by decide +kernel
theorem dX10_count_0 : decode cX10_count 0 = .ok (.aload_n 0, 1) := by decide +kernel
theorem dX10_count_1 : decode cX10_count 1 = .ok (.iload_n 1, 1) := by decide +kernel
theorem dX10_count_2 : decode cX10_count 2 = .ok (.aload_n 0, 1) := by decide +kernel
theorem dX10_count_3 : decode cX10_count 3 = .ok (.getfield 86, 3) := by decide +kernel
theorem dX10_count_6 : decode cX10_count 6 = .ok (.invokestatic 92, 3) := by decide +kernel
theorem dX10_count_9 : decode cX10_count 9 = .ok (.ifCond .ne 12, 3) := by decide +kernel
theorem dX10_count_12 : decode cX10_count 12 = .ok (.iload_n 2, 1) := by decide +kernel
theorem dX10_count_13 : decode cX10_count 13 = .ok (.bipush 12, 2) := by decide +kernel
theorem dX10_count_15 : decode cX10_count 15 = .ok (.invokestatic 92, 3) := by decide +kernel
theorem dX10_count_18 : decode cX10_count 18 = .ok (.ifCond .eq 7, 3) := by decide +kernel
theorem dX10_count_21 : decode cX10_count 21 = .ok (.iconst 1, 1) := by decide +kernel
theorem dX10_count_22 : decode cX10_count 22 = .ok (.goto 25, 3) := by decide +kernel
theorem dX10_count_25 : decode cX10_count 25 = .ok (.aload_n 0, 1) := by decide +kernel
theorem dX10_count_26 : decode cX10_count 26 = .ok (.getfield 7, 3) := by decide +kernel
theorem dX10_count_29 : decode cX10_count 29 = .ok (.bipush 12, 2) := by decide +kernel
theorem dX10_count_31 : decode cX10_count 31 = .ok (.iload_n 1, 1) := by decide +kernel
theorem dX10_count_32 : decode cX10_count 32 = .ok (.imul, 1) := by decide +kernel
theorem dX10_count_33 : decode cX10_count 33 = .ok (.iload_n 2, 1) := by decide +kernel
theorem dX10_count_34 : decode cX10_count 34 = .ok (.iadd, 1) := by decide +kernel
theorem dX10_count_35 : decode cX10_count 35 = .ok (.iaload, 1) := by decide +kernel
theorem dX10_count_36 : decode cX10_count 36 = .ok (.sipush 1000, 3) := by decide +kernel
theorem dX10_count_39 : decode cX10_count 39 = .ok (.if_icmp .ne 7, 3) := by decide +kernel
theorem dX10_count_42 : decode cX10_count 42 = .ok (.iconst 2, 1) := by decide +kernel
theorem dX10_count_43 : decode cX10_count 43 = .ok (.goto 4, 3) := by decide +kernel
theorem dX10_count_46 : decode cX10_count 46 = .ok (.iconst 0, 1) := by decide +kernel
theorem dX10_count_47 : decode cX10_count 47 = .ok (.putfield 73, 3) := by decide +kernel
theorem dX10_count_50 : decode cX10_count 50 = .ok (.aload_n 0, 1) := by decide +kernel
theorem dX10_count_51 : decode cX10_count 51 = .ok (.getfield 73, 3) := by decide +kernel
theorem dX10_count_54 : decode cX10_count 54 = .ok (.ifCond .le 5, 3) := by decide +kernel
theorem dX10_count_57 : decode cX10_count 57 = .ok (.iconst 0, 1) := by decide +kernel
theorem dX10_count_58 : decode cX10_count 58 = .ok (.ireturn, 1) := by decide +kernel
theorem dX10_count_59 : decode cX10_count 59 = .ok (.aload_n 0, 1) := by decide +kernel
theorem dX10_count_60 : decode cX10_count 60 = .ok (.getfield 7, 3) := by decide +kernel
theorem dX10_count_63 : decode cX10_count 63 = .ok (.bipush 12, 2) := by decide +kernel
theorem dX10_count_65 : decode cX10_count 65 = .ok (.iload_n 1, 1) := by decide +kernel
theorem dX10_count_66 : decode cX10_count 66 = .ok (.imul, 1) := by decide +kernel
theorem dX10_count_67 : decode cX10_count 67 = .ok (.iload_n 2, 1) := by decide +kernel
theorem dX10_count_68 : decode cX10_count 68 = .ok (.iadd, 1) := by decide +kernel
theorem dX10_count_69 : decode cX10_count 69 = .ok (.dup2, 1) := by decide +kernel
theorem dX10_count_70 : decode cX10_count 70 = .ok (.iaload, 1) := by decide +kernel
theorem dX10_count_71 : decode cX10_count 71 = .ok (.iconst 1, 1) := by decide +kernel
theorem dX10_count_72 : decode cX10_count 72 = .ok (.iadd, 1) := by decide +kernel
theorem dX10_count_73 : decode cX10_count 73 = .ok (.iastore, 1) := by decide +kernel
theorem dX10_count_74 : decode cX10_count 74 = .ok (.aload_n 0, 1) := by decide +kernel
theorem dX10_count_75 : decode cX10_count 75 = .ok (.invokevirtual 89, 3) := by decide +kernel
theorem dX10_count_78 : decode cX10_count 78 = .ok (.aload_n 0, 1) := by decide +kernel
theorem dX10_count_79 : decode cX10_count 79 = .ok (.getfield 7, 3) := by decide +kernel
theorem dX10_count_82 : decode cX10_count 82 = .ok (.bipush 12, 2) := by decide +kernel
theorem dX10_count_84 : decode cX10_count 84 = .ok (.iload_n 1, 1) := by decide +kernel
theorem dX10_count_85 : decode cX10_count 85 = .ok (.imul, 1) := by decide +kernel
theorem dX10_count_86 : decode cX10_count 86 = .ok (.iload_n 2, 1) := by decide +kernel
theorem dX10_count_87 : decode cX10_count 87 = .ok (.iadd, 1) := by decide +kernel
theorem dX10_count_88 : decode cX10_count 88 = .ok (.iaload, 1) := by decide +kernel
theorem dX10_count_89 : decode cX10_count 89 = .ok (.ireturn, 1) := by decide +kernel
theorem dX10_weigh_0 : decode cX10_weigh 0 = .ok (.aload_n 0, 1) := by decide +kernel
theorem dX10_weigh_1 : decode cX10_weigh 1 = .ok (.iload_n 1, 1) := by decide +kernel
theorem dX10_weigh_2 : decode cX10_weigh 2 = .ok (.aload_n 0, 1) := by decide +kernel
theorem dX10_weigh_3 : decode cX10_weigh 3 = .ok (.getfield 86, 3) := by decide +kernel
theorem dX10_weigh_6 : decode cX10_weigh 6 = .ok (.invokestatic 92, 3) := by decide +kernel
theorem dX10_weigh_9 : decode cX10_weigh 9 = .ok (.ifCond .ne 12, 3) := by decide +kernel
theorem dX10_weigh_12 : decode cX10_weigh 12 = .ok (.iload_n 2, 1) := by decide +kernel
theorem dX10_weigh_13 : decode cX10_weigh 13 = .ok (.bipush 12, 2) := by decide +kernel
theorem dX10_weigh_15 : decode cX10_weigh 15 = .ok (.invokestatic 92, 3) := by decide +kernel
theorem dX10_weigh_18 : decode cX10_weigh 18 = .ok (.ifCond .eq 7, 3) := by decide +kernel
theorem dX10_weigh_21 : decode cX10_weigh 21 = .ok (.iconst 1, 1) := by decide +kernel
theorem dX10_weigh_22 : decode cX10_weigh 22 = .ok (.goto 21, 3) := by decide +kernel
theorem dX10_weigh_25 : decode cX10_weigh 25 = .ok (.fload_n 3, 1) := by decide +kernel
theorem dX10_weigh_26 : decode cX10_weigh 26 = .ok (.invokestatic 96, 3) := by decide +kernel
theorem dX10_weigh_29 : decode cX10_weigh 29 = .ok (.ifCond .eq 13, 3) := by decide +kernel
theorem dX10_weigh_32 : decode cX10_weigh 32 = .ok (.fload_n 3, 1) := by decide +kernel
theorem dX10_weigh_33 : decode cX10_weigh 33 = .ok (.fconst 0, 1) := by decide +kernel
theorem dX10_weigh_34 : decode cX10_weigh 34 = .ok (.fcmp .l, 1) := by decide +kernel
theorem dX10_weigh_35 : decode cX10_weigh 35 = .ok (.ifCond .lt 7, 3) := by decide +kernel
theorem dX10_weigh_38 : decode cX10_weigh 38 = .ok (.iconst 0, 1) := by decide +kernel
theorem dX10_weigh_39 : decode cX10_weigh 39 = .ok (.goto 4, 3) := by decide +kernel
theorem dX10_weigh_42 : decode cX10_weigh 42 = .ok (.iconst 2, 1) := by decide +kernel
theorem dX10_weigh_43 : decode cX10_weigh 43 = .ok (.putfield 73, 3) := by decide +kernel
theorem dX10_weigh_46 : decode cX10_weigh 46 = .ok (.aload_n 0, 1) := by decide +kernel
theorem dX10_weigh_47 : decode cX10_weigh 47 = .ok (.getfield 73, 3) := by decide +kernel
theorem dX10_weigh_50 : decode cX10_weigh 50 = .ok (.ifCond .le 4, 3) := by decide +kernel
theorem dX10_weigh_53 : decode cX10_weigh 53 = .ok (.return_, 1) := by decide +kernel
theorem dX10_weigh_54 : decode cX10_weigh 54 = .ok (.aload_n 0, 1) := by decide +kernel
theorem dX10_weigh_55 : decode cX10_weigh 55 = .ok (.getfield 13, 3) := by decide +kernel
theorem dX10_weigh_58 : decode cX10_weigh 58 = .ok (.bipush 12, 2) := by decide +kernel
theorem dX10_weigh_60 : decode cX10_weigh 60 = .ok (.iload_n 1, 1) := by decide +kernel
theorem dX10_weigh_61 : decode cX10_weigh 61 = .ok (.imul, 1) := by decide +kernel
theorem dX10_weigh_62 : decode cX10_weigh 62 = .ok (.iload_n 2, 1) := by decide +kernel
theorem dX10_weigh_63 : decode cX10_weigh 63 = .ok (.iadd, 1) := by decide +kernel
theorem dX10_weigh_64 : decode cX10_weigh 64 = .ok (.fload_n 3, 1) := by decide +kernel
theorem dX10_weigh_65 : decode cX10_weigh 65 = .ok (.fastore, 1) := by decide +kernel
theorem dX10_weigh_66 : decode cX10_weigh 66 = .ok (.aload_n 0, 1) := by decide +kernel
theorem dX10_weigh_67 : decode cX10_weigh 67 = .ok (.invokevirtual 89, 3) := by decide +kernel
theorem dX10_weigh_70 : decode cX10_weigh 70 = .ok (.return_, 1) := by decide +kernel
theorem dX10_token_0 : decode cX10_token 0 = .ok (.fload_n 2, 1) := by decide +kernel
theorem dX10_token_1 : decode cX10_token 1 = .ok (.invokestatic 96, 3) := by decide +kernel
theorem dX10_token_4 : decode cX10_token 4 = .ok (.ifCond .eq 30, 3) := by decide +kernel
theorem dX10_token_7 : decode cX10_token 7 = .ok (.fload_n 3, 1) := by decide +kernel
theorem dX10_token_8 : decode cX10_token 8 = .ok (.invokestatic 96, 3) := by decide +kernel
theorem dX10_token_11 : decode cX10_token 11 = .ok (.ifCond .eq 23, 3) := by decide +kernel
theorem dX10_token_14 : decode cX10_token 14 = .ok (.fload 4, 2) := by decide +kernel
theorem dX10_token_16 : decode cX10_token 16 = .ok (.invokestatic 96, 3) := by decide +kernel
theorem dX10_token_19 : decode cX10_token 19 = .ok (.ifCond .eq 15, 3) := by decide +kernel
theorem dX10_token_22 : decode cX10_token 22 = .ok (.fload 5, 2) := by decide +kernel
theorem dX10_token_24 : decode cX10_token 24 = .ok (.invokestatic 96, 3) := by decide +kernel
theorem dX10_token_27 : decode cX10_token 27 = .ok (.ifCond .eq 7, 3) := by decide +kernel
theorem dX10_token_30 : decode cX10_token 30 = .ok (.iconst 1, 1) := by decide +kernel
theorem dX10_token_31 : decode cX10_token 31 = .ok (.goto 4, 3) := by decide +kernel
theorem dX10_token_34 : decode cX10_token 34 = .ok (.iconst 0, 1) := by decide +kernel
theorem dX10_token_35 : decode cX10_token 35 = .ok (.istore 6, 2) := by decide +kernel
theorem dX10_token_37 : decode cX10_token 37 = .ok (.aload_n 0, 1) := by decide +kernel
theorem dX10_token_38 : decode cX10_token 38 = .ok (.iload_n 1, 1) := by decide +kernel
theorem dX10_token_39 : decode cX10_token 39 = .ok (.aload_n 0, 1) := by decide +kernel
theorem dX10_token_40 : decode cX10_token 40 = .ok (.getfield 86, 3) := by decide +kernel
theorem dX10_token_43 : decode cX10_token 43 = .ok (.invokestatic 92, 3) := by decide +kernel
theorem dX10_token_46 : decode cX10_token 46 = .ok (.ifCond .eq 7, 3) := by decide +kernel
theorem dX10_token_49 : decode cX10_token 49 = .ok (.iconst 1, 1) := by decide +kernel
theorem dX10_token_50 : decode cX10_token 50 = .ok (.goto 27, 3) := by decide +kernel
theorem dX10_token_53 : decode cX10_token 53 = .ok (.iload 6, 2) := by decide +kernel
theorem dX10_token_55 : decode cX10_token 55 = .ok (.ifCond .ne 7, 3) := by decide +kernel
theorem dX10_token_58 : decode cX10_token 58 = .ok (.iconst 2, 1) := by decide +kernel
theorem dX10_token_59 : decode cX10_token 59 = .ok (.goto 18, 3) := by decide +kernel
theorem dX10_token_62 : decode cX10_token 62 = .ok (.aload_n 0, 1) := by decide +kernel
theorem dX10_token_63 : decode cX10_token 63 = .ok (.getfield 17, 3) := by decide +kernel
theorem dX10_token_66 : decode cX10_token 66 = .ok (.iload_n 1, 1) := by decide +kernel
theorem dX10_token_67 : decode cX10_token 67 = .ok (.iaload, 1) := by decide +kernel
theorem dX10_token_68 : decode cX10_token 68 = .ok (.iconst 4, 1) := by decide +kernel
theorem dX10_token_69 : decode cX10_token 69 = .ok (.if_icmp .ne 7, 3) := by decide +kernel
theorem dX10_token_72 : decode cX10_token 72 = .ok (.iconst 3, 1) := by decide +kernel
theorem dX10_token_73 : decode cX10_token 73 = .ok (.goto 4, 3) := by decide +kernel
theorem dX10_token_76 : decode cX10_token 76 = .ok (.iconst 0, 1) := by decide +kernel
theorem dX10_token_77 : decode cX10_token 77 = .ok (.putfield 73, 3) := by decide +kernel
theorem dX10_token_80 : decode cX10_token 80 = .ok (.aload_n 0, 1) := by decide +kernel
theorem dX10_token_81 : decode cX10_token 81 = .ok (.getfield 73, 3) := by decide +kernel
theorem dX10_token_84 : decode cX10_token 84 = .ok (.ifCond .le 5, 3) := by decide +kernel
theorem dX10_token_87 : decode cX10_token 87 = .ok (.iconst 0, 1) := by decide +kernel
theorem dX10_token_88 : decode cX10_token 88 = .ok (.ireturn, 1) := by decide +kernel
theorem dX10_token_89 : decode cX10_token 89 = .ok (.aload_n 0, 1) := by decide +kernel
theorem dX10_token_90 : decode cX10_token 90 = .ok (.getfield 20, 3) := by decide +kernel
theorem dX10_token_93 : decode cX10_token 93 = .ok (.bipush 16, 2) := by decide +kernel
theorem dX10_token_95 : decode cX10_token 95 = .ok (.iload_n 1, 1) := by decide +kernel
theorem dX10_token_96 : decode cX10_token 96 = .ok (.imul, 1) := by decide +kernel
theorem dX10_token_97 : decode cX10_token 97 = .ok (.iconst 4, 1) := by decide +kernel
theorem dX10_token_98 : decode cX10_token 98 = .ok (.aload_n 0, 1) := by decide +kernel
theorem dX10_token_99 : decode cX10_token 99 = .ok (.getfield 17, 3) := by decide +kernel
theorem dX10_token_102 : decode cX10_token 102 = .ok (.iload_n 1, 1) := by decide +kernel
theorem dX10_token_103 : decode cX10_token 103 = .ok (.iaload, 1) := by decide +kernel
theorem dX10_token_104 : decode cX10_token 104 = .ok (.imul, 1) := by decide +kernel
theorem dX10_token_105 : decode cX10_token 105 = .ok (.iadd, 1) := by decide +kernel
theorem dX10_token_106 : decode cX10_token 106 = .ok (.fload_n 2, 1) := by decide +kernel
theorem dX10_token_107 : decode cX10_token 107 = .ok (.fload_n 3, 1) := by decide +kernel
theorem dX10_token_108 : decode cX10_token 108 = .ok (.fload 4, 2) := by decide +kernel
theorem dX10_token_110 : decode cX10_token 110 = .ok (.fload 5, 2) := by decide +kernel
theorem dX10_token_112 : decode cX10_token 112 = .ok (.invokestatic 100, 3) := by decide +kernel
theorem dX10_token_115 : decode cX10_token 115 = .ok (.aload_n 0, 1) := by decide +kernel
theorem dX10_token_116 : decode cX10_token 116 = .ok (.getfield 17, 3) := by decide +kernel
theorem dX10_token_119 : decode cX10_token 119 = .ok (.iload_n 1, 1) := by decide +kernel
theorem dX10_token_120 : decode cX10_token 120 = .ok (.dup2, 1) := by decide +kernel
theorem dX10_token_121 : decode cX10_token 121 = .ok (.iaload, 1) := by decide +kernel
theorem dX10_token_122 : decode cX10_token 122 = .ok (.iconst 1, 1) := by decide +kernel
theorem dX10_token_123 : decode cX10_token 123 = .ok (.iadd, 1) := by decide +kernel
theorem dX10_token_124 : decode cX10_token 124 = .ok (.iastore, 1) := by decide +kernel
theorem dX10_token_125 : decode cX10_token 125 = .ok (.aload_n 0, 1) := by decide +kernel
theorem dX10_token_126 : decode cX10_token 126 = .ok (.invokevirtual 89, 3) := by decide +kernel
theorem dX10_token_129 : decode cX10_token 129 = .ok (.aload_n 0, 1) := by decide +kernel
theorem dX10_token_130 : decode cX10_token 130 = .ok (.getfield 17, 3) := by decide +kernel
theorem dX10_token_133 : decode cX10_token 133 = .ok (.iload_n 1, 1) := by decide +kernel
theorem dX10_token_134 : decode cX10_token 134 = .ok (.iaload, 1) := by decide +kernel
theorem dX10_token_135 : decode cX10_token 135 = .ok (.iconst 1, 1) := by decide +kernel
theorem dX10_token_136 : decode cX10_token 136 = .ok (.isub, 1) := by decide +kernel
theorem dX10_token_137 : decode cX10_token 137 = .ok (.ireturn, 1) := by decide +kernel
theorem dX10_put_0 : decode cX10_put 0 = .ok (.aload_n 0, 1) := by decide +kernel
theorem dX10_put_1 : decode cX10_put 1 = .ok (.iload_n 1, 1) := by decide +kernel
theorem dX10_put_2 : decode cX10_put 2 = .ok (.fload_n 2, 1) := by decide +kernel
theorem dX10_put_3 : decode cX10_put 3 = .ok (.fastore, 1) := by decide +kernel
theorem dX10_put_4 : decode cX10_put 4 = .ok (.aload_n 0, 1) := by decide +kernel
theorem dX10_put_5 : decode cX10_put 5 = .ok (.iload_n 1, 1) := by decide +kernel
theorem dX10_put_6 : decode cX10_put 6 = .ok (.iconst 1, 1) := by decide +kernel
theorem dX10_put_7 : decode cX10_put 7 = .ok (.iadd, 1) := by decide +kernel
theorem dX10_put_8 : decode cX10_put 8 = .ok (.fload_n 3, 1) := by decide +kernel
theorem dX10_put_9 : decode cX10_put 9 = .ok (.fastore, 1) := by decide +kernel
theorem dX10_put_10 : decode cX10_put 10 = .ok (.aload_n 0, 1) := by decide +kernel
theorem dX10_put_11 : decode cX10_put 11 = .ok (.iload_n 1, 1) := by decide +kernel
theorem dX10_put_12 : decode cX10_put 12 = .ok (.iconst 2, 1) := by decide +kernel
theorem dX10_put_13 : decode cX10_put 13 = .ok (.iadd, 1) := by decide +kernel
theorem dX10_put_14 : decode cX10_put 14 = .ok (.fload 4, 2) := by decide +kernel
theorem dX10_put_16 : decode cX10_put 16 = .ok (.fastore, 1) := by decide +kernel
theorem dX10_put_17 : decode cX10_put 17 = .ok (.aload_n 0, 1) := by decide +kernel
theorem dX10_put_18 : decode cX10_put 18 = .ok (.iload_n 1, 1) := by decide +kernel
theorem dX10_put_19 : decode cX10_put 19 = .ok (.iconst 3, 1) := by decide +kernel
theorem dX10_put_20 : decode cX10_put 20 = .ok (.iadd, 1) := by decide +kernel
theorem dX10_put_21 : decode cX10_put 21 = .ok (.fload 5, 2) := by decide +kernel
theorem dX10_put_23 : decode cX10_put 23 = .ok (.fastore, 1) := by decide +kernel
theorem dX10_put_24 : decode cX10_put 24 = .ok (.return_, 1) := by decide +kernel
theorem dX10_centroid_0 : decode cX10_centroid 0 = .ok (.aload_n 0, 1) := by decide +kernel
theorem dX10_centroid_1 : decode cX10_centroid 1 = .ok (.fload_n 1, 1) := by decide +kernel
theorem dX10_centroid_2 : decode cX10_centroid 2 = .ok (.invokestatic 96, 3) := by decide +kernel
theorem dX10_centroid_5 : decode cX10_centroid 5 = .ok (.ifCond .eq 25, 3) := by decide +kernel
theorem dX10_centroid_8 : decode cX10_centroid 8 = .ok (.fload_n 2, 1) := by decide +kernel
theorem dX10_centroid_9 : decode cX10_centroid 9 = .ok (.invokestatic 96, 3) := by decide +kernel
theorem dX10_centroid_12 : decode cX10_centroid 12 = .ok (.ifCond .eq 18, 3) := by decide +kernel
theorem dX10_centroid_15 : decode cX10_centroid 15 = .ok (.fload_n 3, 1) := by decide +kernel
theorem dX10_centroid_16 : decode cX10_centroid 16 = .ok (.invokestatic 96, 3) := by decide +kernel
theorem dX10_centroid_19 : decode cX10_centroid 19 = .ok (.ifCond .eq 11, 3) := by decide +kernel
theorem dX10_centroid_22 : decode cX10_centroid 22 = .ok (.fload 4, 2) := by decide +kernel
theorem dX10_centroid_24 : decode cX10_centroid 24 = .ok (.invokestatic 96, 3) := by decide +kernel
theorem dX10_centroid_27 : decode cX10_centroid 27 = .ok (.ifCond .ne 7, 3) := by decide +kernel
theorem dX10_centroid_30 : decode cX10_centroid 30 = .ok (.iconst 1, 1) := by decide +kernel
theorem dX10_centroid_31 : decode cX10_centroid 31 = .ok (.goto 16, 3) := by decide +kernel
theorem dX10_centroid_34 : decode cX10_centroid 34 = .ok (.aload_n 0, 1) := by decide +kernel
theorem dX10_centroid_35 : decode cX10_centroid 35 = .ok (.getfield 104, 3) := by decide +kernel
theorem dX10_centroid_38 : decode cX10_centroid 38 = .ok (.iconst 4, 1) := by decide +kernel
theorem dX10_centroid_39 : decode cX10_centroid 39 = .ok (.if_icmp .ne 7, 3) := by decide +kernel
theorem dX10_centroid_42 : decode cX10_centroid 42 = .ok (.iconst 2, 1) := by decide +kernel
theorem dX10_centroid_43 : decode cX10_centroid 43 = .ok (.goto 4, 3) := by decide +kernel
theorem dX10_centroid_46 : decode cX10_centroid 46 = .ok (.iconst 0, 1) := by decide +kernel
theorem dX10_centroid_47 : decode cX10_centroid 47 = .ok (.putfield 73, 3) := by decide +kernel
theorem dX10_centroid_50 : decode cX10_centroid 50 = .ok (.aload_n 0, 1) := by decide +kernel
theorem dX10_centroid_51 : decode cX10_centroid 51 = .ok (.getfield 73, 3) := by decide +kernel
theorem dX10_centroid_54 : decode cX10_centroid 54 = .ok (.ifCond .le 5, 3) := by decide +kernel
theorem dX10_centroid_57 : decode cX10_centroid 57 = .ok (.iconst 0, 1) := by decide +kernel
theorem dX10_centroid_58 : decode cX10_centroid 58 = .ok (.ireturn, 1) := by decide +kernel
theorem dX10_centroid_59 : decode cX10_centroid 59 = .ok (.aload_n 0, 1) := by decide +kernel
theorem dX10_centroid_60 : decode cX10_centroid 60 = .ok (.getfield 23, 3) := by decide +kernel
theorem dX10_centroid_63 : decode cX10_centroid 63 = .ok (.iconst 4, 1) := by decide +kernel
theorem dX10_centroid_64 : decode cX10_centroid 64 = .ok (.aload_n 0, 1) := by decide +kernel
theorem dX10_centroid_65 : decode cX10_centroid 65 = .ok (.getfield 104, 3) := by decide +kernel
theorem dX10_centroid_68 : decode cX10_centroid 68 = .ok (.imul, 1) := by decide +kernel
theorem dX10_centroid_69 : decode cX10_centroid 69 = .ok (.fload_n 1, 1) := by decide +kernel
theorem dX10_centroid_70 : decode cX10_centroid 70 = .ok (.fload_n 2, 1) := by decide +kernel
theorem dX10_centroid_71 : decode cX10_centroid 71 = .ok (.fload_n 3, 1) := by decide +kernel
theorem dX10_centroid_72 : decode cX10_centroid 72 = .ok (.fload 4, 2) := by decide +kernel
theorem dX10_centroid_74 : decode cX10_centroid 74 = .ok (.invokestatic 100, 3) := by decide +kernel
theorem dX10_centroid_77 : decode cX10_centroid 77 = .ok (.aload_n 0, 1) := by decide +kernel
theorem dX10_centroid_78 : decode cX10_centroid 78 = .ok (.dup, 1) := by decide +kernel
theorem dX10_centroid_79 : decode cX10_centroid 79 = .ok (.getfield 104, 3) := by decide +kernel
theorem dX10_centroid_82 : decode cX10_centroid 82 = .ok (.iconst 1, 1) := by decide +kernel
theorem dX10_centroid_83 : decode cX10_centroid 83 = .ok (.iadd, 1) := by decide +kernel
theorem dX10_centroid_84 : decode cX10_centroid 84 = .ok (.putfield 104, 3) := by decide +kernel
theorem dX10_centroid_87 : decode cX10_centroid 87 = .ok (.aload_n 0, 1) := by decide +kernel
theorem dX10_centroid_88 : decode cX10_centroid 88 = .ok (.invokevirtual 89, 3) := by decide +kernel
theorem dX10_centroid_91 : decode cX10_centroid 91 = .ok (.aload_n 0, 1) := by decide +kernel
theorem dX10_centroid_92 : decode cX10_centroid 92 = .ok (.getfield 104, 3) := by decide +kernel
theorem dX10_centroid_95 : decode cX10_centroid 95 = .ok (.iconst 1, 1) := by decide +kernel
theorem dX10_centroid_96 : decode cX10_centroid 96 = .ok (.isub, 1) := by decide +kernel
theorem dX10_centroid_97 : decode cX10_centroid 97 = .ok (.ireturn, 1) := by decide +kernel
theorem dX10_clear_0 : decode cX10_clear 0 = .ok (.aload_n 0, 1) := by decide +kernel
theorem dX10_clear_1 : decode cX10_clear 1 = .ok (.iconst 0, 1) := by decide +kernel
theorem dX10_clear_2 : decode cX10_clear 2 = .ok (.putfield 73, 3) := by decide +kernel
theorem dX10_clear_5 : decode cX10_clear 5 = .ok (.aload_n 0, 1) := by decide +kernel
theorem dX10_clear_6 : decode cX10_clear 6 = .ok (.iconst 0, 1) := by decide +kernel
theorem dX10_clear_7 : decode cX10_clear 7 = .ok (.putfield 107, 3) := by decide +kernel
theorem dX10_clear_10 : decode cX10_clear 10 = .ok (.aload_n 0, 1) := by decide +kernel
theorem dX10_clear_11 : decode cX10_clear 11 = .ok (.iconst 0, 1) := by decide +kernel
theorem dX10_clear_12 : decode cX10_clear 12 = .ok (.putfield 110, 3) := by decide +kernel
theorem dX10_clear_15 : decode cX10_clear 15 = .ok (.aload_n 0, 1) := by decide +kernel
theorem dX10_clear_16 : decode cX10_clear 16 = .ok (.iconst 0, 1) := by decide +kernel
theorem dX10_clear_17 : decode cX10_clear 17 = .ok (.putfield 113, 3) := by decide +kernel
theorem dX10_clear_20 : decode cX10_clear 20 = .ok (.aload_n 0, 1) := by decide +kernel
theorem dX10_clear_21 : decode cX10_clear 21 = .ok (.invokevirtual 89, 3) := by decide +kernel
theorem dX10_clear_24 : decode cX10_clear 24 = .ok (.return_, 1) := by decide +kernel
theorem dX10_isThere_0 : decode cX10_isThere 0 = .ok (.iconst 0, 1) := by decide +kernel
theorem dX10_isThere_1 : decode cX10_isThere 1 = .ok (.istore_n 3, 1) := by decide +kernel
theorem dX10_isThere_2 : decode cX10_isThere 2 = .ok (.iconst 0, 1) := by decide +kernel
theorem dX10_isThere_3 : decode cX10_isThere 3 = .ok (.istore 4, 2) := by decide +kernel
theorem dX10_isThere_5 : decode cX10_isThere 5 = .ok (.iload 4, 2) := by decide +kernel
theorem dX10_isThere_7 : decode cX10_isThere 7 = .ok (.iload_n 1, 1) := by decide +kernel
theorem dX10_isThere_8 : decode cX10_isThere 8 = .ok (.if_icmp .ge 27, 3) := by decide +kernel
theorem dX10_isThere_11 : decode cX10_isThere 11 = .ok (.iload_n 3, 1) := by decide +kernel
theorem dX10_isThere_12 : decode cX10_isThere 12 = .ok (.ifCond .ne 11, 3) := by decide +kernel
theorem dX10_isThere_15 : decode cX10_isThere 15 = .ok (.aload_n 0, 1) := by decide +kernel
theorem dX10_isThere_16 : decode cX10_isThere 16 = .ok (.iload 4, 2) := by decide +kernel
theorem dX10_isThere_18 : decode cX10_isThere 18 = .ok (.iaload, 1) := by decide +kernel
theorem dX10_isThere_19 : decode cX10_isThere 19 = .ok (.iload_n 2, 1) := by decide +kernel
theorem dX10_isThere_20 : decode cX10_isThere 20 = .ok (.if_icmp .ne 7, 3) := by decide +kernel
theorem dX10_isThere_23 : decode cX10_isThere 23 = .ok (.iconst 1, 1) := by decide +kernel
theorem dX10_isThere_24 : decode cX10_isThere 24 = .ok (.goto 4, 3) := by decide +kernel
theorem dX10_isThere_27 : decode cX10_isThere 27 = .ok (.iconst 0, 1) := by decide +kernel
theorem dX10_isThere_28 : decode cX10_isThere 28 = .ok (.istore_n 3, 1) := by decide +kernel
theorem dX10_isThere_29 : decode cX10_isThere 29 = .ok (.iinc 4 1, 3) := by decide +kernel
theorem dX10_isThere_32 : decode cX10_isThere 32 = .ok (.goto (-27), 3) := by decide +kernel
theorem dX10_isThere_35 : decode cX10_isThere 35 = .ok (.iload_n 3, 1) := by decide +kernel
theorem dX10_isThere_36 : decode cX10_isThere 36 = .ok (.ireturn, 1) := by decide +kernel
theorem dX10_word_0 : decode cX10_word 0 = .ok (.aload_n 0, 1) := by decide +kernel
theorem dX10_word_1 : decode cX10_word 1 = .ok (.iload_n 1, 1) := by decide +kernel
theorem dX10_word_2 : decode cX10_word 2 = .ok (.bipush 12, 2) := by decide +kernel
theorem dX10_word_4 : decode cX10_word 4 = .ok (.invokestatic 92, 3) := by decide +kernel
theorem dX10_word_7 : decode cX10_word 7 = .ok (.ifCond .eq 7, 3) := by decide +kernel
theorem dX10_word_10 : decode cX10_word 10 = .ok (.iconst 1, 1) := by decide +kernel
theorem dX10_word_11 : decode cX10_word 11 = .ok (.goto 35, 3) := by decide +kernel
theorem dX10_word_14 : decode cX10_word 14 = .ok (.aload_n 0, 1) := by decide +kernel
theorem dX10_word_15 : decode cX10_word 15 = .ok (.getfield 26, 3) := by decide +kernel
theorem dX10_word_18 : decode cX10_word 18 = .ok (.aload_n 0, 1) := by decide +kernel
theorem dX10_word_19 : decode cX10_word 19 = .ok (.getfield 107, 3) := by decide +kernel
theorem dX10_word_22 : decode cX10_word 22 = .ok (.iload_n 1, 1) := by decide +kernel
theorem dX10_word_23 : decode cX10_word 23 = .ok (.invokestatic 116, 3) := by decide +kernel
theorem dX10_word_26 : decode cX10_word 26 = .ok (.ifCond .eq 7, 3) := by decide +kernel
theorem dX10_word_29 : decode cX10_word 29 = .ok (.iconst 2, 1) := by decide +kernel
theorem dX10_word_30 : decode cX10_word 30 = .ok (.goto 16, 3) := by decide +kernel
theorem dX10_word_33 : decode cX10_word 33 = .ok (.aload_n 0, 1) := by decide +kernel
theorem dX10_word_34 : decode cX10_word 34 = .ok (.getfield 107, 3) := by decide +kernel
theorem dX10_word_37 : decode cX10_word 37 = .ok (.iconst 4, 1) := by decide +kernel
theorem dX10_word_38 : decode cX10_word 38 = .ok (.if_icmp .ne 7, 3) := by decide +kernel
theorem dX10_word_41 : decode cX10_word 41 = .ok (.iconst 3, 1) := by decide +kernel
theorem dX10_word_42 : decode cX10_word 42 = .ok (.goto 4, 3) := by decide +kernel
theorem dX10_word_45 : decode cX10_word 45 = .ok (.iconst 0, 1) := by decide +kernel
theorem dX10_word_46 : decode cX10_word 46 = .ok (.putfield 73, 3) := by decide +kernel
theorem dX10_word_49 : decode cX10_word 49 = .ok (.aload_n 0, 1) := by decide +kernel
theorem dX10_word_50 : decode cX10_word 50 = .ok (.getfield 73, 3) := by decide +kernel
theorem dX10_word_53 : decode cX10_word 53 = .ok (.ifCond .le 5, 3) := by decide +kernel
theorem dX10_word_56 : decode cX10_word 56 = .ok (.iconst 0, 1) := by decide +kernel
theorem dX10_word_57 : decode cX10_word 57 = .ok (.ireturn, 1) := by decide +kernel
theorem dX10_word_58 : decode cX10_word 58 = .ok (.aload_n 0, 1) := by decide +kernel
theorem dX10_word_59 : decode cX10_word 59 = .ok (.getfield 26, 3) := by decide +kernel
theorem dX10_word_62 : decode cX10_word 62 = .ok (.aload_n 0, 1) := by decide +kernel
theorem dX10_word_63 : decode cX10_word 63 = .ok (.getfield 107, 3) := by decide +kernel
theorem dX10_word_66 : decode cX10_word 66 = .ok (.iload_n 1, 1) := by decide +kernel
theorem dX10_word_67 : decode cX10_word 67 = .ok (.iastore, 1) := by decide +kernel
theorem dX10_word_68 : decode cX10_word 68 = .ok (.aload_n 0, 1) := by decide +kernel
theorem dX10_word_69 : decode cX10_word 69 = .ok (.dup, 1) := by decide +kernel
theorem dX10_word_70 : decode cX10_word 70 = .ok (.getfield 107, 3) := by decide +kernel
theorem dX10_word_73 : decode cX10_word 73 = .ok (.iconst 1, 1) := by decide +kernel
theorem dX10_word_74 : decode cX10_word 74 = .ok (.iadd, 1) := by decide +kernel
theorem dX10_word_75 : decode cX10_word 75 = .ok (.putfield 107, 3) := by decide +kernel
theorem dX10_word_78 : decode cX10_word 78 = .ok (.aload_n 0, 1) := by decide +kernel
theorem dX10_word_79 : decode cX10_word 79 = .ok (.iconst 0, 1) := by decide +kernel
theorem dX10_word_80 : decode cX10_word 80 = .ok (.invokevirtual 82, 3) := by decide +kernel
theorem dX10_word_83 : decode cX10_word 83 = .ok (.aload_n 0, 1) := by decide +kernel
theorem dX10_word_84 : decode cX10_word 84 = .ok (.getfield 107, 3) := by decide +kernel
theorem dX10_word_87 : decode cX10_word 87 = .ok (.ireturn, 1) := by decide +kernel
theorem dX10_impact_0 : decode cX10_impact 0 = .ok (.aload_n 0, 1) := by decide +kernel
theorem dX10_impact_1 : decode cX10_impact 1 = .ok (.iload_n 1, 1) := by decide +kernel
theorem dX10_impact_2 : decode cX10_impact 2 = .ok (.bipush 12, 2) := by decide +kernel
theorem dX10_impact_4 : decode cX10_impact 4 = .ok (.invokestatic 92, 3) := by decide +kernel
theorem dX10_impact_7 : decode cX10_impact 7 = .ok (.ifCond .eq 7, 3) := by decide +kernel
theorem dX10_impact_10 : decode cX10_impact 10 = .ok (.iconst 1, 1) := by decide +kernel
theorem dX10_impact_11 : decode cX10_impact 11 = .ok (.goto 46, 3) := by decide +kernel
theorem dX10_impact_14 : decode cX10_impact 14 = .ok (.aload_n 0, 1) := by decide +kernel
theorem dX10_impact_15 : decode cX10_impact 15 = .ok (.getfield 29, 3) := by decide +kernel
theorem dX10_impact_18 : decode cX10_impact 18 = .ok (.aload_n 0, 1) := by decide +kernel
theorem dX10_impact_19 : decode cX10_impact 19 = .ok (.getfield 110, 3) := by decide +kernel
theorem dX10_impact_22 : decode cX10_impact 22 = .ok (.iload_n 1, 1) := by decide +kernel
theorem dX10_impact_23 : decode cX10_impact 23 = .ok (.invokestatic 116, 3) := by decide +kernel
theorem dX10_impact_26 : decode cX10_impact 26 = .ok (.ifCond .ne 14, 3) := by decide +kernel
theorem dX10_impact_29 : decode cX10_impact 29 = .ok (.iload_n 2, 1) := by decide +kernel
theorem dX10_impact_30 : decode cX10_impact 30 = .ok (.iconst 1, 1) := by decide +kernel
theorem dX10_impact_31 : decode cX10_impact 31 = .ok (.if_icmp .lt 9, 3) := by decide +kernel
theorem dX10_impact_34 : decode cX10_impact 34 = .ok (.iload_n 2, 1) := by decide +kernel
theorem dX10_impact_35 : decode cX10_impact 35 = .ok (.bipush 100, 2) := by decide +kernel
theorem dX10_impact_37 : decode cX10_impact 37 = .ok (.if_icmp .le 7, 3) := by decide +kernel
theorem dX10_impact_40 : decode cX10_impact 40 = .ok (.iconst 2, 1) := by decide +kernel
theorem dX10_impact_41 : decode cX10_impact 41 = .ok (.goto 16, 3) := by decide +kernel
theorem dX10_impact_44 : decode cX10_impact 44 = .ok (.aload_n 0, 1) := by decide +kernel
theorem dX10_impact_45 : decode cX10_impact 45 = .ok (.getfield 110, 3) := by decide +kernel
theorem dX10_impact_48 : decode cX10_impact 48 = .ok (.iconst 4, 1) := by decide +kernel
theorem dX10_impact_49 : decode cX10_impact 49 = .ok (.if_icmp .ne 7, 3) := by decide +kernel
theorem dX10_impact_52 : decode cX10_impact 52 = .ok (.iconst 3, 1) := by decide +kernel
theorem dX10_impact_53 : decode cX10_impact 53 = .ok (.goto 4, 3) := by decide +kernel
theorem dX10_impact_56 : decode cX10_impact 56 = .ok (.iconst 0, 1) := by decide +kernel
theorem dX10_impact_57 : decode cX10_impact 57 = .ok (.putfield 73, 3) := by decide +kernel
theorem dX10_impact_60 : decode cX10_impact 60 = .ok (.aload_n 0, 1) := by decide +kernel
theorem dX10_impact_61 : decode cX10_impact 61 = .ok (.getfield 73, 3) := by decide +kernel
theorem dX10_impact_64 : decode cX10_impact 64 = .ok (.ifCond .le 5, 3) := by decide +kernel
theorem dX10_impact_67 : decode cX10_impact 67 = .ok (.iconst 0, 1) := by decide +kernel
theorem dX10_impact_68 : decode cX10_impact 68 = .ok (.ireturn, 1) := by decide +kernel
theorem dX10_impact_69 : decode cX10_impact 69 = .ok (.aload_n 0, 1) := by decide +kernel
theorem dX10_impact_70 : decode cX10_impact 70 = .ok (.getfield 29, 3) := by decide +kernel
theorem dX10_impact_73 : decode cX10_impact 73 = .ok (.aload_n 0, 1) := by decide +kernel
theorem dX10_impact_74 : decode cX10_impact 74 = .ok (.getfield 110, 3) := by decide +kernel
theorem dX10_impact_77 : decode cX10_impact 77 = .ok (.iload_n 1, 1) := by decide +kernel
theorem dX10_impact_78 : decode cX10_impact 78 = .ok (.iastore, 1) := by decide +kernel
theorem dX10_impact_79 : decode cX10_impact 79 = .ok (.aload_n 0, 1) := by decide +kernel
theorem dX10_impact_80 : decode cX10_impact 80 = .ok (.getfield 32, 3) := by decide +kernel
theorem dX10_impact_83 : decode cX10_impact 83 = .ok (.aload_n 0, 1) := by decide +kernel
theorem dX10_impact_84 : decode cX10_impact 84 = .ok (.getfield 110, 3) := by decide +kernel
theorem dX10_impact_87 : decode cX10_impact 87 = .ok (.iload_n 2, 1) := by decide +kernel
theorem dX10_impact_88 : decode cX10_impact 88 = .ok (.iastore, 1) := by decide +kernel
theorem dX10_impact_89 : decode cX10_impact 89 = .ok (.aload_n 0, 1) := by decide +kernel
theorem dX10_impact_90 : decode cX10_impact 90 = .ok (.dup, 1) := by decide +kernel
theorem dX10_impact_91 : decode cX10_impact 91 = .ok (.getfield 110, 3) := by decide +kernel
theorem dX10_impact_94 : decode cX10_impact 94 = .ok (.iconst 1, 1) := by decide +kernel
theorem dX10_impact_95 : decode cX10_impact 95 = .ok (.iadd, 1) := by decide +kernel
theorem dX10_impact_96 : decode cX10_impact 96 = .ok (.putfield 110, 3) := by decide +kernel
theorem dX10_impact_99 : decode cX10_impact 99 = .ok (.aload_n 0, 1) := by decide +kernel
theorem dX10_impact_100 : decode cX10_impact 100 = .ok (.iconst 1, 1) := by decide +kernel
theorem dX10_impact_101 : decode cX10_impact 101 = .ok (.invokevirtual 82, 3) := by decide +kernel
theorem dX10_impact_104 : decode cX10_impact 104 = .ok (.aload_n 0, 1) := by decide +kernel
theorem dX10_impact_105 : decode cX10_impact 105 = .ok (.getfield 110, 3) := by decide +kernel
theorem dX10_impact_108 : decode cX10_impact 108 = .ok (.ireturn, 1) := by decide +kernel
theorem dX10_vector_0 : decode cX10_vector 0 = .ok (.aload_n 0, 1) := by decide +kernel
theorem dX10_vector_1 : decode cX10_vector 1 = .ok (.fload_n 1, 1) := by decide +kernel
theorem dX10_vector_2 : decode cX10_vector 2 = .ok (.invokestatic 96, 3) := by decide +kernel
theorem dX10_vector_5 : decode cX10_vector 5 = .ok (.ifCond .eq 25, 3) := by decide +kernel
theorem dX10_vector_8 : decode cX10_vector 8 = .ok (.fload_n 2, 1) := by decide +kernel
theorem dX10_vector_9 : decode cX10_vector 9 = .ok (.invokestatic 96, 3) := by decide +kernel
theorem dX10_vector_12 : decode cX10_vector 12 = .ok (.ifCond .eq 18, 3) := by decide +kernel
theorem dX10_vector_15 : decode cX10_vector 15 = .ok (.fload_n 3, 1) := by decide +kernel
theorem dX10_vector_16 : decode cX10_vector 16 = .ok (.invokestatic 96, 3) := by decide +kernel
theorem dX10_vector_19 : decode cX10_vector 19 = .ok (.ifCond .eq 11, 3) := by decide +kernel
theorem dX10_vector_22 : decode cX10_vector 22 = .ok (.fload 4, 2) := by decide +kernel
theorem dX10_vector_24 : decode cX10_vector 24 = .ok (.invokestatic 96, 3) := by decide +kernel
theorem dX10_vector_27 : decode cX10_vector 27 = .ok (.ifCond .ne 7, 3) := by decide +kernel
theorem dX10_vector_30 : decode cX10_vector 30 = .ok (.iconst 1, 1) := by decide +kernel
theorem dX10_vector_31 : decode cX10_vector 31 = .ok (.goto 16, 3) := by decide +kernel
theorem dX10_vector_34 : decode cX10_vector 34 = .ok (.aload_n 0, 1) := by decide +kernel
theorem dX10_vector_35 : decode cX10_vector 35 = .ok (.getfield 113, 3) := by decide +kernel
theorem dX10_vector_38 : decode cX10_vector 38 = .ok (.iconst 3, 1) := by decide +kernel
theorem dX10_vector_39 : decode cX10_vector 39 = .ok (.if_icmp .ne 7, 3) := by decide +kernel
theorem dX10_vector_42 : decode cX10_vector 42 = .ok (.iconst 2, 1) := by decide +kernel
theorem dX10_vector_43 : decode cX10_vector 43 = .ok (.goto 4, 3) := by decide +kernel
theorem dX10_vector_46 : decode cX10_vector 46 = .ok (.iconst 0, 1) := by decide +kernel
theorem dX10_vector_47 : decode cX10_vector 47 = .ok (.putfield 73, 3) := by decide +kernel
theorem dX10_vector_50 : decode cX10_vector 50 = .ok (.aload_n 0, 1) := by decide +kernel
theorem dX10_vector_51 : decode cX10_vector 51 = .ok (.getfield 73, 3) := by decide +kernel
theorem dX10_vector_54 : decode cX10_vector 54 = .ok (.ifCond .le 5, 3) := by decide +kernel
theorem dX10_vector_57 : decode cX10_vector 57 = .ok (.iconst 0, 1) := by decide +kernel
theorem dX10_vector_58 : decode cX10_vector 58 = .ok (.ireturn, 1) := by decide +kernel
theorem dX10_vector_59 : decode cX10_vector 59 = .ok (.aload_n 0, 1) := by decide +kernel
theorem dX10_vector_60 : decode cX10_vector 60 = .ok (.getfield 35, 3) := by decide +kernel
theorem dX10_vector_63 : decode cX10_vector 63 = .ok (.iconst 4, 1) := by decide +kernel
theorem dX10_vector_64 : decode cX10_vector 64 = .ok (.aload_n 0, 1) := by decide +kernel
theorem dX10_vector_65 : decode cX10_vector 65 = .ok (.getfield 113, 3) := by decide +kernel
theorem dX10_vector_68 : decode cX10_vector 68 = .ok (.imul, 1) := by decide +kernel
theorem dX10_vector_69 : decode cX10_vector 69 = .ok (.fload_n 1, 1) := by decide +kernel
theorem dX10_vector_70 : decode cX10_vector 70 = .ok (.fload_n 2, 1) := by decide +kernel
theorem dX10_vector_71 : decode cX10_vector 71 = .ok (.fload_n 3, 1) := by decide +kernel
theorem dX10_vector_72 : decode cX10_vector 72 = .ok (.fload 4, 2) := by decide +kernel
theorem dX10_vector_74 : decode cX10_vector 74 = .ok (.invokestatic 100, 3) := by decide +kernel
theorem dX10_vector_77 : decode cX10_vector 77 = .ok (.aload_n 0, 1) := by decide +kernel
theorem dX10_vector_78 : decode cX10_vector 78 = .ok (.dup, 1) := by decide +kernel
theorem dX10_vector_79 : decode cX10_vector 79 = .ok (.getfield 113, 3) := by decide +kernel
theorem dX10_vector_82 : decode cX10_vector 82 = .ok (.iconst 1, 1) := by decide +kernel
theorem dX10_vector_83 : decode cX10_vector 83 = .ok (.iadd, 1) := by decide +kernel
theorem dX10_vector_84 : decode cX10_vector 84 = .ok (.putfield 113, 3) := by decide +kernel
theorem dX10_vector_87 : decode cX10_vector 87 = .ok (.aload_n 0, 1) := by decide +kernel
theorem dX10_vector_88 : decode cX10_vector 88 = .ok (.iconst 2, 1) := by decide +kernel
theorem dX10_vector_89 : decode cX10_vector 89 = .ok (.invokevirtual 82, 3) := by decide +kernel
theorem dX10_vector_92 : decode cX10_vector 92 = .ok (.aload_n 0, 1) := by decide +kernel
theorem dX10_vector_93 : decode cX10_vector 93 = .ok (.getfield 113, 3) := by decide +kernel
theorem dX10_vector_96 : decode cX10_vector 96 = .ok (.ireturn, 1) := by decide +kernel
theorem dX10_logOf_0 : decode cX10_logOf 0 = .ok (.dload_n 0, 1) := by decide +kernel
theorem dX10_logOf_1 : decode cX10_logOf 1 = .ok (.dstore_n 2, 1) := by decide +kernel
theorem dX10_logOf_2 : decode cX10_logOf 2 = .ok (.iconst 0, 1) := by decide +kernel
theorem dX10_logOf_3 : decode cX10_logOf 3 = .ok (.istore 4, 2) := by decide +kernel
theorem dX10_logOf_5 : decode cX10_logOf 5 = .ok (.dload_n 2, 1) := by decide +kernel
theorem dX10_logOf_6 : decode cX10_logOf 6 = .ok (.ldc2_w 120, 3) := by decide +kernel
theorem dX10_logOf_9 : decode cX10_logOf 9 = .ok (.dcmp .l, 1) := by decide +kernel
theorem dX10_logOf_10 : decode cX10_logOf 10 = .ok (.ifCond .lt 15, 3) := by decide +kernel
theorem dX10_logOf_13 : decode cX10_logOf 13 = .ok (.dload_n 2, 1) := by decide +kernel
theorem dX10_logOf_14 : decode cX10_logOf 14 = .ok (.ldc2_w 120, 3) := by decide +kernel
theorem dX10_logOf_17 : decode cX10_logOf 17 = .ok (.ddiv, 1) := by decide +kernel
theorem dX10_logOf_18 : decode cX10_logOf 18 = .ok (.dstore_n 2, 1) := by decide +kernel
theorem dX10_logOf_19 : decode cX10_logOf 19 = .ok (.iinc 4 1, 3) := by decide +kernel
theorem dX10_logOf_22 : decode cX10_logOf 22 = .ok (.goto (-17), 3) := by decide +kernel
theorem dX10_logOf_25 : decode cX10_logOf 25 = .ok (.dload_n 2, 1) := by decide +kernel
theorem dX10_logOf_26 : decode cX10_logOf 26 = .ok (.dconst 1, 1) := by decide +kernel
theorem dX10_logOf_27 : decode cX10_logOf 27 = .ok (.dsub, 1) := by decide +kernel
theorem dX10_logOf_28 : decode cX10_logOf 28 = .ok (.dload_n 2, 1) := by decide +kernel
theorem dX10_logOf_29 : decode cX10_logOf 29 = .ok (.dconst 1, 1) := by decide +kernel
theorem dX10_logOf_30 : decode cX10_logOf 30 = .ok (.dadd, 1) := by decide +kernel
theorem dX10_logOf_31 : decode cX10_logOf 31 = .ok (.ddiv, 1) := by decide +kernel
theorem dX10_logOf_32 : decode cX10_logOf 32 = .ok (.dstore 5, 2) := by decide +kernel
theorem dX10_logOf_34 : decode cX10_logOf 34 = .ok (.dload 5, 2) := by decide +kernel
theorem dX10_logOf_36 : decode cX10_logOf 36 = .ok (.dstore 7, 2) := by decide +kernel
theorem dX10_logOf_38 : decode cX10_logOf 38 = .ok (.dconst 0, 1) := by decide +kernel
theorem dX10_logOf_39 : decode cX10_logOf 39 = .ok (.dstore 9, 2) := by decide +kernel
theorem dX10_logOf_41 : decode cX10_logOf 41 = .ok (.iconst 1, 1) := by decide +kernel
theorem dX10_logOf_42 : decode cX10_logOf 42 = .ok (.istore 11, 2) := by decide +kernel
theorem dX10_logOf_44 : decode cX10_logOf 44 = .ok (.iload 11, 2) := by decide +kernel
theorem dX10_logOf_46 : decode cX10_logOf 46 = .ok (.bipush 20, 2) := by decide +kernel
theorem dX10_logOf_48 : decode cX10_logOf 48 = .ok (.if_icmp .ge 30, 3) := by decide +kernel
theorem dX10_logOf_51 : decode cX10_logOf 51 = .ok (.dload 9, 2) := by decide +kernel
theorem dX10_logOf_53 : decode cX10_logOf 53 = .ok (.dload 7, 2) := by decide +kernel
theorem dX10_logOf_55 : decode cX10_logOf 55 = .ok (.iload 11, 2) := by decide +kernel
theorem dX10_logOf_57 : decode cX10_logOf 57 = .ok (.i2d, 1) := by decide +kernel
theorem dX10_logOf_58 : decode cX10_logOf 58 = .ok (.ddiv, 1) := by decide +kernel
theorem dX10_logOf_59 : decode cX10_logOf 59 = .ok (.dadd, 1) := by decide +kernel
theorem dX10_logOf_60 : decode cX10_logOf 60 = .ok (.dstore 9, 2) := by decide +kernel
theorem dX10_logOf_62 : decode cX10_logOf 62 = .ok (.dload 7, 2) := by decide +kernel
theorem dX10_logOf_64 : decode cX10_logOf 64 = .ok (.dload 5, 2) := by decide +kernel
theorem dX10_logOf_66 : decode cX10_logOf 66 = .ok (.dload 5, 2) := by decide +kernel
theorem dX10_logOf_68 : decode cX10_logOf 68 = .ok (.dmul, 1) := by decide +kernel
theorem dX10_logOf_69 : decode cX10_logOf 69 = .ok (.dmul, 1) := by decide +kernel
theorem dX10_logOf_70 : decode cX10_logOf 70 = .ok (.dstore 7, 2) := by decide +kernel
theorem dX10_logOf_72 : decode cX10_logOf 72 = .ok (.iinc 11 2, 3) := by decide +kernel
theorem dX10_logOf_75 : decode cX10_logOf 75 = .ok (.goto (-31), 3) := by decide +kernel
theorem dX10_logOf_78 : decode cX10_logOf 78 = .ok (.ldc2_w 120, 3) := by decide +kernel
theorem dX10_logOf_81 : decode cX10_logOf 81 = .ok (.dload 9, 2) := by decide +kernel
theorem dX10_logOf_83 : decode cX10_logOf 83 = .ok (.dmul, 1) := by decide +kernel
theorem dX10_logOf_84 : decode cX10_logOf 84 = .ok (.iload 4, 2) := by decide +kernel
theorem dX10_logOf_86 : decode cX10_logOf 86 = .ok (.i2d, 1) := by decide +kernel
theorem dX10_logOf_87 : decode cX10_logOf 87 = .ok (.ldc2_w 122, 3) := by decide +kernel
theorem dX10_logOf_90 : decode cX10_logOf 90 = .ok (.dmul, 1) := by decide +kernel
theorem dX10_logOf_91 : decode cX10_logOf 91 = .ok (.dadd, 1) := by decide +kernel
theorem dX10_logOf_92 : decode cX10_logOf 92 = .ok (.dreturn, 1) := by decide +kernel
theorem dX10_log_0 : decode cX10_log 0 = .ok (.aload_n 0, 1) := by decide +kernel
theorem dX10_log_1 : decode cX10_log 1 = .ok (.iconst 0, 1) := by decide +kernel
theorem dX10_log_2 : decode cX10_log 2 = .ok (.putfield 73, 3) := by decide +kernel
theorem dX10_log_5 : decode cX10_log 5 = .ok (.dload_n 1, 1) := by decide +kernel
theorem dX10_log_6 : decode cX10_log 6 = .ok (.dconst 1, 1) := by decide +kernel
theorem dX10_log_7 : decode cX10_log 7 = .ok (.dcmp .l, 1) := by decide +kernel
theorem dX10_log_8 : decode cX10_log 8 = .ok (.ifCond .lt 18, 3) := by decide +kernel
theorem dX10_log_11 : decode cX10_log 11 = .ok (.dload_n 1, 1) := by decide +kernel
theorem dX10_log_12 : decode cX10_log 12 = .ok (.ldc2_w 126, 3) := by decide +kernel
theorem dX10_log_15 : decode cX10_log 15 = .ok (.dcmp .g, 1) := by decide +kernel
theorem dX10_log_16 : decode cX10_log 16 = .ok (.ifCond .gt 10, 3) := by decide +kernel
theorem dX10_log_19 : decode cX10_log 19 = .ok (.dload_n 1, 1) := by decide +kernel
theorem dX10_log_20 : decode cX10_log 20 = .ok (.invokestatic 128, 3) := by decide +kernel
theorem dX10_log_23 : decode cX10_log 23 = .ok (.goto 6, 3) := by decide +kernel
theorem dX10_log_26 : decode cX10_log 26 = .ok (.ldc2_w 132, 3) := by decide +kernel
theorem dX10_log_29 : decode cX10_log 29 = .ok (.dreturn, 1) := by decide +kernel
theorem dX10_lengthOf_0 : decode cX10_lengthOf 0 = .ok (.iconst 0, 1) := by decide +kernel
theorem dX10_lengthOf_1 : decode cX10_lengthOf 1 = .ok (.istore_n 2, 1) := by decide +kernel
theorem dX10_lengthOf_2 : decode cX10_lengthOf 2 = .ok (.iconst 0, 1) := by decide +kernel
theorem dX10_lengthOf_3 : decode cX10_lengthOf 3 = .ok (.istore_n 3, 1) := by decide +kernel
theorem dX10_lengthOf_4 : decode cX10_lengthOf 4 = .ok (.iload_n 3, 1) := by decide +kernel
theorem dX10_lengthOf_5 : decode cX10_lengthOf 5 = .ok (.bipush 12, 2) := by decide +kernel
theorem dX10_lengthOf_7 : decode cX10_lengthOf 7 = .ok (.if_icmp .ge 23, 3) := by decide +kernel
theorem dX10_lengthOf_10 : decode cX10_lengthOf 10 = .ok (.iload_n 2, 1) := by decide +kernel
theorem dX10_lengthOf_11 : decode cX10_lengthOf 11 = .ok (.aload_n 0, 1) := by decide +kernel
theorem dX10_lengthOf_12 : decode cX10_lengthOf 12 = .ok (.getfield 7, 3) := by decide +kernel
theorem dX10_lengthOf_15 : decode cX10_lengthOf 15 = .ok (.bipush 12, 2) := by decide +kernel
theorem dX10_lengthOf_17 : decode cX10_lengthOf 17 = .ok (.iload_n 1, 1) := by decide +kernel
theorem dX10_lengthOf_18 : decode cX10_lengthOf 18 = .ok (.imul, 1) := by decide +kernel
theorem dX10_lengthOf_19 : decode cX10_lengthOf 19 = .ok (.iload_n 3, 1) := by decide +kernel
theorem dX10_lengthOf_20 : decode cX10_lengthOf 20 = .ok (.iadd, 1) := by decide +kernel
theorem dX10_lengthOf_21 : decode cX10_lengthOf 21 = .ok (.iaload, 1) := by decide +kernel
theorem dX10_lengthOf_22 : decode cX10_lengthOf 22 = .ok (.iadd, 1) := by decide +kernel
theorem dX10_lengthOf_23 : decode cX10_lengthOf 23 = .ok (.istore_n 2, 1) := by decide +kernel
theorem dX10_lengthOf_24 : decode cX10_lengthOf 24 = .ok (.iinc 3 1, 3) := by decide +kernel
theorem dX10_lengthOf_27 : decode cX10_lengthOf 27 = .ok (.goto (-23), 3) := by decide +kernel
theorem dX10_lengthOf_30 : decode cX10_lengthOf 30 = .ok (.iload_n 2, 1) := by decide +kernel
theorem dX10_lengthOf_31 : decode cX10_lengthOf 31 = .ok (.ireturn, 1) := by decide +kernel
theorem dX10_addsWord_0 : decode cX10_addsWord 0 = .ok (.aload_n 0, 1) := by decide +kernel
theorem dX10_addsWord_1 : decode cX10_addsWord 1 = .ok (.getfield 7, 3) := by decide +kernel
theorem dX10_addsWord_4 : decode cX10_addsWord 4 = .ok (.bipush 12, 2) := by decide +kernel
theorem dX10_addsWord_6 : decode cX10_addsWord 6 = .ok (.iload_n 1, 1) := by decide +kernel
theorem dX10_addsWord_7 : decode cX10_addsWord 7 = .ok (.imul, 1) := by decide +kernel
theorem dX10_addsWord_8 : decode cX10_addsWord 8 = .ok (.iload_n 2, 1) := by decide +kernel
theorem dX10_addsWord_9 : decode cX10_addsWord 9 = .ok (.iadd, 1) := by decide +kernel
theorem dX10_addsWord_10 : decode cX10_addsWord 10 = .ok (.iaload, 1) := by decide +kernel
theorem dX10_addsWord_11 : decode cX10_addsWord 11 = .ok (.i2d, 1) := by decide +kernel
theorem dX10_addsWord_12 : decode cX10_addsWord 12 = .ok (.dstore_n 3, 1) := by decide +kernel
theorem dX10_addsWord_13 : decode cX10_addsWord 13 = .ok (.dload_n 3, 1) := by decide +kernel
theorem dX10_addsWord_14 : decode cX10_addsWord 14 = .ok (.dconst 0, 1) := by decide +kernel
theorem dX10_addsWord_15 : decode cX10_addsWord 15 = .ok (.dcmp .l, 1) := by decide +kernel
theorem dX10_addsWord_16 : decode cX10_addsWord 16 = .ok (.ifCond .ne 5, 3) := by decide +kernel
theorem dX10_addsWord_19 : decode cX10_addsWord 19 = .ok (.dconst 0, 1) := by decide +kernel
theorem dX10_addsWord_20 : decode cX10_addsWord 20 = .ok (.dreturn, 1) := by decide +kernel
theorem dX10_addsWord_21 : decode cX10_addsWord 21 = .ok (.aload_n 0, 1) := by decide +kernel
theorem dX10_addsWord_22 : decode cX10_addsWord 22 = .ok (.getfield 86, 3) := by decide +kernel
theorem dX10_addsWord_25 : decode cX10_addsWord 25 = .ok (.i2d, 1) := by decide +kernel
theorem dX10_addsWord_26 : decode cX10_addsWord 26 = .ok (.dstore 5, 2) := by decide +kernel
theorem dX10_addsWord_28 : decode cX10_addsWord 28 = .ok (.dconst 0, 1) := by decide +kernel
theorem dX10_addsWord_29 : decode cX10_addsWord 29 = .ok (.dstore 7, 2) := by decide +kernel
theorem dX10_addsWord_31 : decode cX10_addsWord 31 = .ok (.dconst 0, 1) := by decide +kernel
theorem dX10_addsWord_32 : decode cX10_addsWord 32 = .ok (.dstore 9, 2) := by decide +kernel
theorem dX10_addsWord_34 : decode cX10_addsWord 34 = .ok (.iconst 0, 1) := by decide +kernel
theorem dX10_addsWord_35 : decode cX10_addsWord 35 = .ok (.istore 11, 2) := by decide +kernel
theorem dX10_addsWord_37 : decode cX10_addsWord 37 = .ok (.iload 11, 2) := by decide +kernel
theorem dX10_addsWord_39 : decode cX10_addsWord 39 = .ok (.aload_n 0, 1) := by decide +kernel
theorem dX10_addsWord_40 : decode cX10_addsWord 40 = .ok (.getfield 86, 3) := by decide +kernel
theorem dX10_addsWord_43 : decode cX10_addsWord 43 = .ok (.if_icmp .ge 46, 3) := by decide +kernel
theorem dX10_addsWord_46 : decode cX10_addsWord 46 = .ok (.dload 7, 2) := by decide +kernel
theorem dX10_addsWord_48 : decode cX10_addsWord 48 = .ok (.aload_n 0, 1) := by decide +kernel
theorem dX10_addsWord_49 : decode cX10_addsWord 49 = .ok (.getfield 7, 3) := by decide +kernel
theorem dX10_addsWord_52 : decode cX10_addsWord 52 = .ok (.bipush 12, 2) := by decide +kernel
theorem dX10_addsWord_54 : decode cX10_addsWord 54 = .ok (.iload 11, 2) := by decide +kernel
theorem dX10_addsWord_56 : decode cX10_addsWord 56 = .ok (.imul, 1) := by decide +kernel
theorem dX10_addsWord_57 : decode cX10_addsWord 57 = .ok (.iload_n 2, 1) := by decide +kernel
theorem dX10_addsWord_58 : decode cX10_addsWord 58 = .ok (.iadd, 1) := by decide +kernel
theorem dX10_addsWord_59 : decode cX10_addsWord 59 = .ok (.iaload, 1) := by decide +kernel
theorem dX10_addsWord_60 : decode cX10_addsWord 60 = .ok (.ifCond .le 7, 3) := by decide +kernel
theorem dX10_addsWord_63 : decode cX10_addsWord 63 = .ok (.dconst 1, 1) := by decide +kernel
theorem dX10_addsWord_64 : decode cX10_addsWord 64 = .ok (.goto 4, 3) := by decide +kernel
theorem dX10_addsWord_67 : decode cX10_addsWord 67 = .ok (.dconst 0, 1) := by decide +kernel
theorem dX10_addsWord_68 : decode cX10_addsWord 68 = .ok (.dadd, 1) := by decide +kernel
theorem dX10_addsWord_69 : decode cX10_addsWord 69 = .ok (.dstore 7, 2) := by decide +kernel
theorem dX10_addsWord_71 : decode cX10_addsWord 71 = .ok (.dload 9, 2) := by decide +kernel
theorem dX10_addsWord_73 : decode cX10_addsWord 73 = .ok (.aload_n 0, 1) := by decide +kernel
theorem dX10_addsWord_74 : decode cX10_addsWord 74 = .ok (.iload 11, 2) := by decide +kernel
theorem dX10_addsWord_76 : decode cX10_addsWord 76 = .ok (.invokevirtual 134, 3) := by decide +kernel
theorem dX10_addsWord_79 : decode cX10_addsWord 79 = .ok (.i2d, 1) := by decide +kernel
theorem dX10_addsWord_80 : decode cX10_addsWord 80 = .ok (.dadd, 1) := by decide +kernel
theorem dX10_addsWord_81 : decode cX10_addsWord 81 = .ok (.dstore 9, 2) := by decide +kernel
theorem dX10_addsWord_83 : decode cX10_addsWord 83 = .ok (.iinc 11 1, 3) := by decide +kernel
theorem dX10_addsWord_86 : decode cX10_addsWord 86 = .ok (.goto (-49), 3) := by decide +kernel
theorem dX10_addsWord_89 : decode cX10_addsWord 89 = .ok (.dload 9, 2) := by decide +kernel
theorem dX10_addsWord_91 : decode cX10_addsWord 91 = .ok (.dload 5, 2) := by decide +kernel
theorem dX10_addsWord_93 : decode cX10_addsWord 93 = .ok (.ddiv, 1) := by decide +kernel
theorem dX10_addsWord_94 : decode cX10_addsWord 94 = .ok (.dstore 11, 2) := by decide +kernel
theorem dX10_addsWord_96 : decode cX10_addsWord 96 = .ok (.aload_n 0, 1) := by decide +kernel
theorem dX10_addsWord_97 : decode cX10_addsWord 97 = .ok (.iload_n 1, 1) := by decide +kernel
theorem dX10_addsWord_98 : decode cX10_addsWord 98 = .ok (.invokevirtual 134, 3) := by decide +kernel
theorem dX10_addsWord_101 : decode cX10_addsWord 101 = .ok (.i2d, 1) := by decide +kernel
theorem dX10_addsWord_102 : decode cX10_addsWord 102 = .ok (.dstore 13, 2) := by decide +kernel
theorem dX10_addsWord_104 : decode cX10_addsWord 104 = .ok (.dconst 1, 1) := by decide +kernel
theorem dX10_addsWord_105 : decode cX10_addsWord 105 = .ok (.dload 5, 2) := by decide +kernel
theorem dX10_addsWord_107 : decode cX10_addsWord 107 = .ok (.dload 7, 2) := by decide +kernel
theorem dX10_addsWord_109 : decode cX10_addsWord 109 = .ok (.dsub, 1) := by decide +kernel
theorem dX10_addsWord_110 : decode cX10_addsWord 110 = .ok (.ldc2_w 138, 3) := by decide +kernel
theorem dX10_addsWord_113 : decode cX10_addsWord 113 = .ok (.dadd, 1) := by decide +kernel
theorem dX10_addsWord_114 : decode cX10_addsWord 114 = .ok (.dload 7, 2) := by decide +kernel
theorem dX10_addsWord_116 : decode cX10_addsWord 116 = .ok (.ldc2_w 138, 3) := by decide +kernel
theorem dX10_addsWord_119 : decode cX10_addsWord 119 = .ok (.dadd, 1) := by decide +kernel
theorem dX10_addsWord_120 : decode cX10_addsWord 120 = .ok (.ddiv, 1) := by decide +kernel
theorem dX10_addsWord_121 : decode cX10_addsWord 121 = .ok (.dadd, 1) := by decide +kernel
theorem dX10_addsWord_122 : decode cX10_addsWord 122 = .ok (.invokestatic 128, 3) := by decide +kernel
theorem dX10_addsWord_125 : decode cX10_addsWord 125 = .ok (.dstore 15, 2) := by decide +kernel
theorem dX10_addsWord_127 : decode cX10_addsWord 127 = .ok (.dload 15, 2) := by decide +kernel
theorem dX10_addsWord_129 : decode cX10_addsWord 129 = .ok (.dload_n 3, 1) := by decide +kernel
theorem dX10_addsWord_130 : decode cX10_addsWord 130 = .ok (.ldc2_w 140, 3) := by decide +kernel
theorem dX10_addsWord_133 : decode cX10_addsWord 133 = .ok (.dmul, 1) := by decide +kernel
theorem dX10_addsWord_134 : decode cX10_addsWord 134 = .ok (.dmul, 1) := by decide +kernel
theorem dX10_addsWord_135 : decode cX10_addsWord 135 = .ok (.dload_n 3, 1) := by decide +kernel
theorem dX10_addsWord_136 : decode cX10_addsWord 136 = .ok (.ldc2_w 142, 3) := by decide +kernel
theorem dX10_addsWord_139 : decode cX10_addsWord 139 = .ok (.ldc2_w 144, 3) := by decide +kernel
theorem dX10_addsWord_142 : decode cX10_addsWord 142 = .ok (.ldc2_w 146, 3) := by decide +kernel
theorem dX10_addsWord_145 : decode cX10_addsWord 145 = .ok (.dload 13, 2) := by decide +kernel
theorem dX10_addsWord_147 : decode cX10_addsWord 147 = .ok (.dload 11, 2) := by decide +kernel
theorem dX10_addsWord_149 : decode cX10_addsWord 149 = .ok (.ddiv, 1) := by decide +kernel
theorem dX10_addsWord_150 : decode cX10_addsWord 150 = .ok (.dmul, 1) := by decide +kernel
theorem dX10_addsWord_151 : decode cX10_addsWord 151 = .ok (.dadd, 1) := by decide +kernel
theorem dX10_addsWord_152 : decode cX10_addsWord 152 = .ok (.dmul, 1) := by decide +kernel
theorem dX10_addsWord_153 : decode cX10_addsWord 153 = .ok (.dadd, 1) := by decide +kernel
theorem dX10_addsWord_154 : decode cX10_addsWord 154 = .ok (.ddiv, 1) := by decide +kernel
theorem dX10_addsWord_155 : decode cX10_addsWord 155 = .ok (.dreturn, 1) := by decide +kernel
theorem dX10_impactOf_0 : decode cX10_impactOf 0 = .ok (.aload_n 0, 1) := by decide +kernel
theorem dX10_impactOf_1 : decode cX10_impactOf 1 = .ok (.getfield 13, 3) := by decide +kernel
theorem dX10_impactOf_4 : decode cX10_impactOf 4 = .ok (.bipush 12, 2) := by decide +kernel
theorem dX10_impactOf_6 : decode cX10_impactOf 6 = .ok (.iload_n 1, 1) := by decide +kernel
theorem dX10_impactOf_7 : decode cX10_impactOf 7 = .ok (.imul, 1) := by decide +kernel
theorem dX10_impactOf_8 : decode cX10_impactOf 8 = .ok (.iload_n 2, 1) := by decide +kernel
theorem dX10_impactOf_9 : decode cX10_impactOf 9 = .ok (.iadd, 1) := by decide +kernel
theorem dX10_impactOf_10 : decode cX10_impactOf 10 = .ok (.faload, 1) := by decide +kernel
theorem dX10_impactOf_11 : decode cX10_impactOf 11 = .ok (.fstore_n 3, 1) := by decide +kernel
theorem dX10_impactOf_12 : decode cX10_impactOf 12 = .ok (.fload_n 3, 1) := by decide +kernel
theorem dX10_impactOf_13 : decode cX10_impactOf 13 = .ok (.fconst 0, 1) := by decide +kernel
theorem dX10_impactOf_14 : decode cX10_impactOf 14 = .ok (.fcmp .l, 1) := by decide +kernel
theorem dX10_impactOf_15 : decode cX10_impactOf 15 = .ok (.ifCond .gt 5, 3) := by decide +kernel
theorem dX10_impactOf_18 : decode cX10_impactOf 18 = .ok (.iconst 0, 1) := by decide +kernel
theorem dX10_impactOf_19 : decode cX10_impactOf 19 = .ok (.ireturn, 1) := by decide +kernel
theorem dX10_impactOf_20 : decode cX10_impactOf 20 = .ok (.fconst 0, 1) := by decide +kernel
theorem dX10_impactOf_21 : decode cX10_impactOf 21 = .ok (.fstore 4, 2) := by decide +kernel
theorem dX10_impactOf_23 : decode cX10_impactOf 23 = .ok (.iconst 0, 1) := by decide +kernel
theorem dX10_impactOf_24 : decode cX10_impactOf 24 = .ok (.istore 5, 2) := by decide +kernel
theorem dX10_impactOf_26 : decode cX10_impactOf 26 = .ok (.iload 5, 2) := by decide +kernel
theorem dX10_impactOf_28 : decode cX10_impactOf 28 = .ok (.bipush 12, 2) := by decide +kernel
theorem dX10_impactOf_30 : decode cX10_impactOf 30 = .ok (.aload_n 0, 1) := by decide +kernel
theorem dX10_impactOf_31 : decode cX10_impactOf 31 = .ok (.getfield 86, 3) := by decide +kernel
theorem dX10_impactOf_34 : decode cX10_impactOf 34 = .ok (.imul, 1) := by decide +kernel
theorem dX10_impactOf_35 : decode cX10_impactOf 35 = .ok (.if_icmp .ge 36, 3) := by decide +kernel
theorem dX10_impactOf_38 : decode cX10_impactOf 38 = .ok (.aload_n 0, 1) := by decide +kernel
theorem dX10_impactOf_39 : decode cX10_impactOf 39 = .ok (.getfield 13, 3) := by decide +kernel
theorem dX10_impactOf_42 : decode cX10_impactOf 42 = .ok (.iload 5, 2) := by decide +kernel
theorem dX10_impactOf_44 : decode cX10_impactOf 44 = .ok (.faload, 1) := by decide +kernel
theorem dX10_impactOf_45 : decode cX10_impactOf 45 = .ok (.fload 4, 2) := by decide +kernel
theorem dX10_impactOf_47 : decode cX10_impactOf 47 = .ok (.fcmp .l, 1) := by decide +kernel
theorem dX10_impactOf_48 : decode cX10_impactOf 48 = .ok (.ifCond .le 13, 3) := by decide +kernel
theorem dX10_impactOf_51 : decode cX10_impactOf 51 = .ok (.aload_n 0, 1) := by decide +kernel
theorem dX10_impactOf_52 : decode cX10_impactOf 52 = .ok (.getfield 13, 3) := by decide +kernel
theorem dX10_impactOf_55 : decode cX10_impactOf 55 = .ok (.iload 5, 2) := by decide +kernel
theorem dX10_impactOf_57 : decode cX10_impactOf 57 = .ok (.faload, 1) := by decide +kernel
theorem dX10_impactOf_58 : decode cX10_impactOf 58 = .ok (.goto 5, 3) := by decide +kernel
theorem dX10_impactOf_61 : decode cX10_impactOf 61 = .ok (.fload 4, 2) := by decide +kernel
theorem dX10_impactOf_63 : decode cX10_impactOf 63 = .ok (.fstore 4, 2) := by decide +kernel
theorem dX10_impactOf_65 : decode cX10_impactOf 65 = .ok (.iinc 5 1, 3) := by decide +kernel
theorem dX10_impactOf_68 : decode cX10_impactOf 68 = .ok (.goto (-42), 3) := by decide +kernel
theorem dX10_impactOf_71 : decode cX10_impactOf 71 = .ok (.fload_n 3, 1) := by decide +kernel
theorem dX10_impactOf_72 : decode cX10_impactOf 72 = .ok (.fload 4, 2) := by decide +kernel
theorem dX10_impactOf_74 : decode cX10_impactOf 74 = .ok (.fdiv, 1) := by decide +kernel
theorem dX10_impactOf_75 : decode cX10_impactOf 75 = .ok (.ldc 148, 2) := by decide +kernel
theorem dX10_impactOf_77 : decode cX10_impactOf 77 = .ok (.fmul, 1) := by decide +kernel
theorem dX10_impactOf_78 : decode cX10_impactOf 78 = .ok (.ldc 149, 2) := by decide +kernel
theorem dX10_impactOf_80 : decode cX10_impactOf 80 = .ok (.fadd, 1) := by decide +kernel
theorem dX10_impactOf_81 : decode cX10_impactOf 81 = .ok (.f2i, 1) := by decide +kernel
theorem dX10_impactOf_82 : decode cX10_impactOf 82 = .ok (.ireturn, 1) := by decide +kernel
theorem dX10_quantised_0 : decode cX10_quantised 0 = .ok (.aload_n 0, 1) := by decide +kernel
theorem dX10_quantised_1 : decode cX10_quantised 1 = .ok (.iload_n 1, 1) := by decide +kernel
theorem dX10_quantised_2 : decode cX10_quantised 2 = .ok (.aload_n 0, 1) := by decide +kernel
theorem dX10_quantised_3 : decode cX10_quantised 3 = .ok (.getfield 86, 3) := by decide +kernel
theorem dX10_quantised_6 : decode cX10_quantised 6 = .ok (.invokestatic 92, 3) := by decide +kernel
theorem dX10_quantised_9 : decode cX10_quantised 9 = .ok (.ifCond .ne 12, 3) := by decide +kernel
theorem dX10_quantised_12 : decode cX10_quantised 12 = .ok (.iload_n 2, 1) := by decide +kernel
theorem dX10_quantised_13 : decode cX10_quantised 13 = .ok (.bipush 12, 2) := by decide +kernel
theorem dX10_quantised_15 : decode cX10_quantised 15 = .ok (.invokestatic 92, 3) := by decide +kernel
theorem dX10_quantised_18 : decode cX10_quantised 18 = .ok (.ifCond .eq 7, 3) := by decide +kernel
theorem dX10_quantised_21 : decode cX10_quantised 21 = .ok (.iconst 1, 1) := by decide +kernel
theorem dX10_quantised_22 : decode cX10_quantised 22 = .ok (.goto 4, 3) := by decide +kernel
theorem dX10_quantised_25 : decode cX10_quantised 25 = .ok (.iconst 0, 1) := by decide +kernel
theorem dX10_quantised_26 : decode cX10_quantised 26 = .ok (.putfield 73, 3) := by decide +kernel
theorem dX10_quantised_29 : decode cX10_quantised 29 = .ok (.aload_n 0, 1) := by decide +kernel
theorem dX10_quantised_30 : decode cX10_quantised 30 = .ok (.getfield 73, 3) := by decide +kernel
theorem dX10_quantised_33 : decode cX10_quantised 33 = .ok (.ifCond .le 7, 3) := by decide +kernel
theorem dX10_quantised_36 : decode cX10_quantised 36 = .ok (.iconst 0, 1) := by decide +kernel
theorem dX10_quantised_37 : decode cX10_quantised 37 = .ok (.goto 9, 3) := by decide +kernel
theorem dX10_quantised_40 : decode cX10_quantised 40 = .ok (.aload_n 0, 1) := by decide +kernel
theorem dX10_quantised_41 : decode cX10_quantised 41 = .ok (.iload_n 1, 1) := by decide +kernel
theorem dX10_quantised_42 : decode cX10_quantised 42 = .ok (.iload_n 2, 1) := by decide +kernel
theorem dX10_quantised_43 : decode cX10_quantised 43 = .ok (.invokevirtual 150, 3) := by decide +kernel
theorem dX10_quantised_46 : decode cX10_quantised 46 = .ok (.ireturn, 1) := by decide +kernel
theorem dX10_adds_0 : decode cX10_adds 0 = .ok (.iload_n 1, 1) := by decide +kernel
theorem dX10_adds_1 : decode cX10_adds 1 = .ok (.ifCond .ne 17, 3) := by decide +kernel
theorem dX10_adds_4 : decode cX10_adds 4 = .ok (.aload_n 0, 1) := by decide +kernel
theorem dX10_adds_5 : decode cX10_adds 5 = .ok (.iload_n 2, 1) := by decide +kernel
theorem dX10_adds_6 : decode cX10_adds 6 = .ok (.aload_n 0, 1) := by decide +kernel
theorem dX10_adds_7 : decode cX10_adds 7 = .ok (.getfield 26, 3) := by decide +kernel
theorem dX10_adds_10 : decode cX10_adds 10 = .ok (.iload_n 3, 1) := by decide +kernel
theorem dX10_adds_11 : decode cX10_adds 11 = .ok (.iaload, 1) := by decide +kernel
theorem dX10_adds_12 : decode cX10_adds 12 = .ok (.invokevirtual 154, 3) := by decide +kernel
theorem dX10_adds_15 : decode cX10_adds 15 = .ok (.goto 23, 3) := by decide +kernel
theorem dX10_adds_18 : decode cX10_adds 18 = .ok (.aload_n 0, 1) := by decide +kernel
theorem dX10_adds_19 : decode cX10_adds 19 = .ok (.getfield 32, 3) := by decide +kernel
theorem dX10_adds_22 : decode cX10_adds 22 = .ok (.iload_n 3, 1) := by decide +kernel
theorem dX10_adds_23 : decode cX10_adds 23 = .ok (.iaload, 1) := by decide +kernel
theorem dX10_adds_24 : decode cX10_adds 24 = .ok (.i2d, 1) := by decide +kernel
theorem dX10_adds_25 : decode cX10_adds 25 = .ok (.aload_n 0, 1) := by decide +kernel
theorem dX10_adds_26 : decode cX10_adds 26 = .ok (.iload_n 2, 1) := by decide +kernel
theorem dX10_adds_27 : decode cX10_adds 27 = .ok (.aload_n 0, 1) := by decide +kernel
theorem dX10_adds_28 : decode cX10_adds 28 = .ok (.getfield 29, 3) := by decide +kernel
theorem dX10_adds_31 : decode cX10_adds 31 = .ok (.iload_n 3, 1) := by decide +kernel
theorem dX10_adds_32 : decode cX10_adds 32 = .ok (.iaload, 1) := by decide +kernel
theorem dX10_adds_33 : decode cX10_adds 33 = .ok (.invokevirtual 150, 3) := by decide +kernel
theorem dX10_adds_36 : decode cX10_adds 36 = .ok (.i2d, 1) := by decide +kernel
theorem dX10_adds_37 : decode cX10_adds 37 = .ok (.dmul, 1) := by decide +kernel
theorem dX10_adds_38 : decode cX10_adds 38 = .ok (.dreturn, 1) := by decide +kernel
theorem dX10_isIn_0 : decode cX10_isIn 0 = .ok (.iload_n 1, 1) := by decide +kernel
theorem dX10_isIn_1 : decode cX10_isIn 1 = .ok (.ifCond .ne 30, 3) := by decide +kernel
theorem dX10_isIn_4 : decode cX10_isIn 4 = .ok (.aload_n 0, 1) := by decide +kernel
theorem dX10_isIn_5 : decode cX10_isIn 5 = .ok (.getfield 7, 3) := by decide +kernel
theorem dX10_isIn_8 : decode cX10_isIn 8 = .ok (.bipush 12, 2) := by decide +kernel
theorem dX10_isIn_10 : decode cX10_isIn 10 = .ok (.iload_n 2, 1) := by decide +kernel
theorem dX10_isIn_11 : decode cX10_isIn 11 = .ok (.imul, 1) := by decide +kernel
theorem dX10_isIn_12 : decode cX10_isIn 12 = .ok (.aload_n 0, 1) := by decide +kernel
theorem dX10_isIn_13 : decode cX10_isIn 13 = .ok (.getfield 26, 3) := by decide +kernel
theorem dX10_isIn_16 : decode cX10_isIn 16 = .ok (.iload_n 3, 1) := by decide +kernel
theorem dX10_isIn_17 : decode cX10_isIn 17 = .ok (.iaload, 1) := by decide +kernel
theorem dX10_isIn_18 : decode cX10_isIn 18 = .ok (.iadd, 1) := by decide +kernel
theorem dX10_isIn_19 : decode cX10_isIn 19 = .ok (.iaload, 1) := by decide +kernel
theorem dX10_isIn_20 : decode cX10_isIn 20 = .ok (.ifCond .le 7, 3) := by decide +kernel
theorem dX10_isIn_23 : decode cX10_isIn 23 = .ok (.iconst 1, 1) := by decide +kernel
theorem dX10_isIn_24 : decode cX10_isIn 24 = .ok (.goto 26, 3) := by decide +kernel
theorem dX10_isIn_27 : decode cX10_isIn 27 = .ok (.iconst 0, 1) := by decide +kernel
theorem dX10_isIn_28 : decode cX10_isIn 28 = .ok (.goto 22, 3) := by decide +kernel
theorem dX10_isIn_31 : decode cX10_isIn 31 = .ok (.aload_n 0, 1) := by decide +kernel
theorem dX10_isIn_32 : decode cX10_isIn 32 = .ok (.iload_n 2, 1) := by decide +kernel
theorem dX10_isIn_33 : decode cX10_isIn 33 = .ok (.aload_n 0, 1) := by decide +kernel
theorem dX10_isIn_34 : decode cX10_isIn 34 = .ok (.getfield 29, 3) := by decide +kernel
theorem dX10_isIn_37 : decode cX10_isIn 37 = .ok (.iload_n 3, 1) := by decide +kernel
theorem dX10_isIn_38 : decode cX10_isIn 38 = .ok (.iaload, 1) := by decide +kernel
theorem dX10_isIn_39 : decode cX10_isIn 39 = .ok (.invokevirtual 150, 3) := by decide +kernel
theorem dX10_isIn_42 : decode cX10_isIn 42 = .ok (.ifCond .le 7, 3) := by decide +kernel
theorem dX10_isIn_45 : decode cX10_isIn 45 = .ok (.iconst 1, 1) := by decide +kernel
theorem dX10_isIn_46 : decode cX10_isIn 46 = .ok (.goto 4, 3) := by decide +kernel
theorem dX10_isIn_49 : decode cX10_isIn 49 = .ok (.iconst 0, 1) := by decide +kernel
theorem dX10_isIn_50 : decode cX10_isIn 50 = .ok (.ireturn, 1) := by decide +kernel
theorem dX10_termsOf_0 : decode cX10_termsOf 0 = .ok (.iload_n 1, 1) := by decide +kernel
theorem dX10_termsOf_1 : decode cX10_termsOf 1 = .ok (.ifCond .ne 10, 3) := by decide +kernel
theorem dX10_termsOf_4 : decode cX10_termsOf 4 = .ok (.aload_n 0, 1) := by decide +kernel
theorem dX10_termsOf_5 : decode cX10_termsOf 5 = .ok (.getfield 107, 3) := by decide +kernel
theorem dX10_termsOf_8 : decode cX10_termsOf 8 = .ok (.goto 7, 3) := by decide +kernel
theorem dX10_termsOf_11 : decode cX10_termsOf 11 = .ok (.aload_n 0, 1) := by decide +kernel
theorem dX10_termsOf_12 : decode cX10_termsOf 12 = .ok (.getfield 110, 3) := by decide +kernel
theorem dX10_termsOf_15 : decode cX10_termsOf 15 = .ok (.ireturn, 1) := by decide +kernel
theorem dX10_product_0 : decode cX10_product 0 = .ok (.fconst 0, 1) := by decide +kernel
theorem dX10_product_1 : decode cX10_product 1 = .ok (.fstore 4, 2) := by decide +kernel
theorem dX10_product_3 : decode cX10_product 3 = .ok (.iconst 0, 1) := by decide +kernel
theorem dX10_product_4 : decode cX10_product 4 = .ok (.istore 5, 2) := by decide +kernel
theorem dX10_product_6 : decode cX10_product 6 = .ok (.iload 5, 2) := by decide +kernel
theorem dX10_product_8 : decode cX10_product 8 = .ok (.iconst 4, 1) := by decide +kernel
theorem dX10_product_9 : decode cX10_product 9 = .ok (.if_icmp .ge 27, 3) := by decide +kernel
theorem dX10_product_12 : decode cX10_product 12 = .ok (.fload 4, 2) := by decide +kernel
theorem dX10_product_14 : decode cX10_product 14 = .ok (.aload_n 0, 1) := by decide +kernel
theorem dX10_product_15 : decode cX10_product 15 = .ok (.iload_n 1, 1) := by decide +kernel
theorem dX10_product_16 : decode cX10_product 16 = .ok (.iload 5, 2) := by decide +kernel
theorem dX10_product_18 : decode cX10_product 18 = .ok (.iadd, 1) := by decide +kernel
theorem dX10_product_19 : decode cX10_product 19 = .ok (.faload, 1) := by decide +kernel
theorem dX10_product_20 : decode cX10_product 20 = .ok (.aload_n 2, 1) := by decide +kernel
theorem dX10_product_21 : decode cX10_product 21 = .ok (.iload_n 3, 1) := by decide +kernel
theorem dX10_product_22 : decode cX10_product 22 = .ok (.iload 5, 2) := by decide +kernel
theorem dX10_product_24 : decode cX10_product 24 = .ok (.iadd, 1) := by decide +kernel
theorem dX10_product_25 : decode cX10_product 25 = .ok (.faload, 1) := by decide +kernel
theorem dX10_product_26 : decode cX10_product 26 = .ok (.fmul, 1) := by decide +kernel
theorem dX10_product_27 : decode cX10_product 27 = .ok (.fadd, 1) := by decide +kernel
theorem dX10_product_28 : decode cX10_product 28 = .ok (.fstore 4, 2) := by decide +kernel
theorem dX10_product_30 : decode cX10_product 30 = .ok (.iinc 5 1, 3) := by decide +kernel
theorem dX10_product_33 : decode cX10_product 33 = .ok (.goto (-27), 3) := by decide +kernel
theorem dX10_product_36 : decode cX10_product 36 = .ok (.fload 4, 2) := by decide +kernel
theorem dX10_product_38 : decode cX10_product 38 = .ok (.freturn, 1) := by decide +kernel
theorem dX10_greater_0 : decode cX10_greater 0 = .ok (.fload_n 0, 1) := by decide +kernel
theorem dX10_greater_1 : decode cX10_greater 1 = .ok (.fload_n 1, 1) := by decide +kernel
theorem dX10_greater_2 : decode cX10_greater 2 = .ok (.fcmp .l, 1) := by decide +kernel
theorem dX10_greater_3 : decode cX10_greater 3 = .ok (.ifCond .le 5, 3) := by decide +kernel
theorem dX10_greater_6 : decode cX10_greater 6 = .ok (.fload_n 0, 1) := by decide +kernel
theorem dX10_greater_7 : decode cX10_greater 7 = .ok (.freturn, 1) := by decide +kernel
theorem dX10_greater_8 : decode cX10_greater 8 = .ok (.fload_n 1, 1) := by decide +kernel
theorem dX10_greater_9 : decode cX10_greater 9 = .ok (.fload_n 0, 1) := by decide +kernel
theorem dX10_greater_10 : decode cX10_greater 10 = .ok (.fcmp .l, 1) := by decide +kernel
theorem dX10_greater_11 : decode cX10_greater 11 = .ok (.ifCond .le 5, 3) := by decide +kernel
theorem dX10_greater_14 : decode cX10_greater 14 = .ok (.fload_n 1, 1) := by decide +kernel
theorem dX10_greater_15 : decode cX10_greater 15 = .ok (.freturn, 1) := by decide +kernel
theorem dX10_greater_16 : decode cX10_greater 16 = .ok (.fload_n 0, 1) := by decide +kernel
theorem dX10_greater_17 : decode cX10_greater 17 = .ok (.fconst 0, 1) := by decide +kernel
theorem dX10_greater_18 : decode cX10_greater 18 = .ok (.fcmp .l, 1) := by decide +kernel
theorem dX10_greater_19 : decode cX10_greater 19 = .ok (.ifCond .ne 9, 3) := by decide +kernel
theorem dX10_greater_22 : decode cX10_greater 22 = .ok (.fload_n 0, 1) := by decide +kernel
theorem dX10_greater_23 : decode cX10_greater 23 = .ok (.fload_n 1, 1) := by decide +kernel
theorem dX10_greater_24 : decode cX10_greater 24 = .ok (.fadd, 1) := by decide +kernel
theorem dX10_greater_25 : decode cX10_greater 25 = .ok (.goto 4, 3) := by decide +kernel
theorem dX10_greater_28 : decode cX10_greater 28 = .ok (.fload_n 0, 1) := by decide +kernel
theorem dX10_greater_29 : decode cX10_greater 29 = .ok (.freturn, 1) := by decide +kernel
theorem dX10_matches_0 : decode cX10_matches 0 = .ok (.iload_n 1, 1) := by decide +kernel
theorem dX10_matches_1 : decode cX10_matches 1 = .ok (.iconst 2, 1) := by decide +kernel
theorem dX10_matches_2 : decode cX10_matches 2 = .ok (.if_icmp .ne 25, 3) := by decide +kernel
theorem dX10_matches_5 : decode cX10_matches 5 = .ok (.aload_n 0, 1) := by decide +kernel
theorem dX10_matches_6 : decode cX10_matches 6 = .ok (.getfield 17, 3) := by decide +kernel
theorem dX10_matches_9 : decode cX10_matches 9 = .ok (.iload_n 2, 1) := by decide +kernel
theorem dX10_matches_10 : decode cX10_matches 10 = .ok (.iaload, 1) := by decide +kernel
theorem dX10_matches_11 : decode cX10_matches 11 = .ok (.ifCond .le 14, 3) := by decide +kernel
theorem dX10_matches_14 : decode cX10_matches 14 = .ok (.aload_n 0, 1) := by decide +kernel
theorem dX10_matches_15 : decode cX10_matches 15 = .ok (.getfield 113, 3) := by decide +kernel
theorem dX10_matches_18 : decode cX10_matches 18 = .ok (.ifCond .le 7, 3) := by decide +kernel
theorem dX10_matches_21 : decode cX10_matches 21 = .ok (.iconst 1, 1) := by decide +kernel
theorem dX10_matches_22 : decode cX10_matches 22 = .ok (.goto 4, 3) := by decide +kernel
theorem dX10_matches_25 : decode cX10_matches 25 = .ok (.iconst 0, 1) := by decide +kernel
theorem dX10_matches_26 : decode cX10_matches 26 = .ok (.ireturn, 1) := by decide +kernel
theorem dX10_matches_27 : decode cX10_matches 27 = .ok (.iconst 0, 1) := by decide +kernel
theorem dX10_matches_28 : decode cX10_matches 28 = .ok (.istore_n 3, 1) := by decide +kernel
theorem dX10_matches_29 : decode cX10_matches 29 = .ok (.iconst 0, 1) := by decide +kernel
theorem dX10_matches_30 : decode cX10_matches 30 = .ok (.istore 4, 2) := by decide +kernel
theorem dX10_matches_32 : decode cX10_matches 32 = .ok (.iload 4, 2) := by decide +kernel
theorem dX10_matches_34 : decode cX10_matches 34 = .ok (.aload_n 0, 1) := by decide +kernel
theorem dX10_matches_35 : decode cX10_matches 35 = .ok (.iload_n 1, 1) := by decide +kernel
theorem dX10_matches_36 : decode cX10_matches 36 = .ok (.invokevirtual 158, 3) := by decide +kernel
theorem dX10_matches_39 : decode cX10_matches 39 = .ok (.if_icmp .ge 30, 3) := by decide +kernel
theorem dX10_matches_42 : decode cX10_matches 42 = .ok (.iload_n 3, 1) := by decide +kernel
theorem dX10_matches_43 : decode cX10_matches 43 = .ok (.ifCond .ne 14, 3) := by decide +kernel
theorem dX10_matches_46 : decode cX10_matches 46 = .ok (.aload_n 0, 1) := by decide +kernel
theorem dX10_matches_47 : decode cX10_matches 47 = .ok (.iload_n 1, 1) := by decide +kernel
theorem dX10_matches_48 : decode cX10_matches 48 = .ok (.iload_n 2, 1) := by decide +kernel
theorem dX10_matches_49 : decode cX10_matches 49 = .ok (.iload 4, 2) := by decide +kernel
theorem dX10_matches_51 : decode cX10_matches 51 = .ok (.invokevirtual 161, 3) := by decide +kernel
theorem dX10_matches_54 : decode cX10_matches 54 = .ok (.ifCond .eq 7, 3) := by decide +kernel
theorem dX10_matches_57 : decode cX10_matches 57 = .ok (.iconst 1, 1) := by decide +kernel
theorem dX10_matches_58 : decode cX10_matches 58 = .ok (.goto 4, 3) := by decide +kernel
theorem dX10_matches_61 : decode cX10_matches 61 = .ok (.iconst 0, 1) := by decide +kernel
theorem dX10_matches_62 : decode cX10_matches 62 = .ok (.istore_n 3, 1) := by decide +kernel
theorem dX10_matches_63 : decode cX10_matches 63 = .ok (.iinc 4 1, 3) := by decide +kernel
theorem dX10_matches_66 : decode cX10_matches 66 = .ok (.goto (-34), 3) := by decide +kernel
theorem dX10_matches_69 : decode cX10_matches 69 = .ok (.iload_n 3, 1) := by decide +kernel
theorem dX10_matches_70 : decode cX10_matches 70 = .ok (.ireturn, 1) := by decide +kernel
theorem dX10_scoreOf_0 : decode cX10_scoreOf 0 = .ok (.dconst 0, 1) := by decide +kernel
theorem dX10_scoreOf_1 : decode cX10_scoreOf 1 = .ok (.dstore_n 3, 1) := by decide +kernel
theorem dX10_scoreOf_2 : decode cX10_scoreOf 2 = .ok (.iconst 0, 1) := by decide +kernel
theorem dX10_scoreOf_3 : decode cX10_scoreOf 3 = .ok (.istore 5, 2) := by decide +kernel
theorem dX10_scoreOf_5 : decode cX10_scoreOf 5 = .ok (.iload_n 1, 1) := by decide +kernel
theorem dX10_scoreOf_6 : decode cX10_scoreOf 6 = .ok (.iconst 2, 1) := by decide +kernel
theorem dX10_scoreOf_7 : decode cX10_scoreOf 7 = .ok (.if_icmp .eq 45, 3) := by decide +kernel
theorem dX10_scoreOf_10 : decode cX10_scoreOf 10 = .ok (.iload 5, 2) := by decide +kernel
theorem dX10_scoreOf_12 : decode cX10_scoreOf 12 = .ok (.aload_n 0, 1) := by decide +kernel
theorem dX10_scoreOf_13 : decode cX10_scoreOf 13 = .ok (.iload_n 1, 1) := by decide +kernel
theorem dX10_scoreOf_14 : decode cX10_scoreOf 14 = .ok (.invokevirtual 158, 3) := by decide +kernel
theorem dX10_scoreOf_17 : decode cX10_scoreOf 17 = .ok (.if_icmp .ge 35, 3) := by decide +kernel
theorem dX10_scoreOf_20 : decode cX10_scoreOf 20 = .ok (.aload_n 0, 1) := by decide +kernel
theorem dX10_scoreOf_21 : decode cX10_scoreOf 21 = .ok (.iload_n 1, 1) := by decide +kernel
theorem dX10_scoreOf_22 : decode cX10_scoreOf 22 = .ok (.iload_n 2, 1) := by decide +kernel
theorem dX10_scoreOf_23 : decode cX10_scoreOf 23 = .ok (.iload 5, 2) := by decide +kernel
theorem dX10_scoreOf_25 : decode cX10_scoreOf 25 = .ok (.invokevirtual 161, 3) := by decide +kernel
theorem dX10_scoreOf_28 : decode cX10_scoreOf 28 = .ok (.ifCond .eq 16, 3) := by decide +kernel
theorem dX10_scoreOf_31 : decode cX10_scoreOf 31 = .ok (.dload_n 3, 1) := by decide +kernel
theorem dX10_scoreOf_32 : decode cX10_scoreOf 32 = .ok (.aload_n 0, 1) := by decide +kernel
theorem dX10_scoreOf_33 : decode cX10_scoreOf 33 = .ok (.iload_n 1, 1) := by decide +kernel
theorem dX10_scoreOf_34 : decode cX10_scoreOf 34 = .ok (.iload_n 2, 1) := by decide +kernel
theorem dX10_scoreOf_35 : decode cX10_scoreOf 35 = .ok (.iload 5, 2) := by decide +kernel
theorem dX10_scoreOf_37 : decode cX10_scoreOf 37 = .ok (.invokevirtual 165, 3) := by decide +kernel
theorem dX10_scoreOf_40 : decode cX10_scoreOf 40 = .ok (.dadd, 1) := by decide +kernel
theorem dX10_scoreOf_41 : decode cX10_scoreOf 41 = .ok (.goto 4, 3) := by decide +kernel
theorem dX10_scoreOf_44 : decode cX10_scoreOf 44 = .ok (.dload_n 3, 1) := by decide +kernel
theorem dX10_scoreOf_45 : decode cX10_scoreOf 45 = .ok (.dstore_n 3, 1) := by decide +kernel
theorem dX10_scoreOf_46 : decode cX10_scoreOf 46 = .ok (.iinc 5 1, 3) := by decide +kernel
theorem dX10_scoreOf_49 : decode cX10_scoreOf 49 = .ok (.goto (-44), 3) := by decide +kernel
theorem dX10_scoreOf_52 : decode cX10_scoreOf 52 = .ok (.iload_n 1, 1) := by decide +kernel
theorem dX10_scoreOf_53 : decode cX10_scoreOf 53 = .ok (.iconst 2, 1) := by decide +kernel
theorem dX10_scoreOf_54 : decode cX10_scoreOf 54 = .ok (.if_icmp .eq 5, 3) := by decide +kernel
theorem dX10_scoreOf_57 : decode cX10_scoreOf 57 = .ok (.dload_n 3, 1) := by decide +kernel
theorem dX10_scoreOf_58 : decode cX10_scoreOf 58 = .ok (.dreturn, 1) := by decide +kernel
theorem dX10_scoreOf_59 : decode cX10_scoreOf 59 = .ok (.fconst 0, 1) := by decide +kernel
theorem dX10_scoreOf_60 : decode cX10_scoreOf 60 = .ok (.fstore 5, 2) := by decide +kernel
theorem dX10_scoreOf_62 : decode cX10_scoreOf 62 = .ok (.iconst 0, 1) := by decide +kernel
theorem dX10_scoreOf_63 : decode cX10_scoreOf 63 = .ok (.istore 6, 2) := by decide +kernel
theorem dX10_scoreOf_65 : decode cX10_scoreOf 65 = .ok (.iload 6, 2) := by decide +kernel
theorem dX10_scoreOf_67 : decode cX10_scoreOf 67 = .ok (.aload_n 0, 1) := by decide +kernel
theorem dX10_scoreOf_68 : decode cX10_scoreOf 68 = .ok (.getfield 113, 3) := by decide +kernel
theorem dX10_scoreOf_71 : decode cX10_scoreOf 71 = .ok (.if_icmp .ge 88, 3) := by decide +kernel
theorem dX10_scoreOf_74 : decode cX10_scoreOf 74 = .ok (.aload_n 0, 1) := by decide +kernel
theorem dX10_scoreOf_75 : decode cX10_scoreOf 75 = .ok (.getfield 35, 3) := by decide +kernel
theorem dX10_scoreOf_78 : decode cX10_scoreOf 78 = .ok (.iconst 4, 1) := by decide +kernel
theorem dX10_scoreOf_79 : decode cX10_scoreOf 79 = .ok (.iload 6, 2) := by decide +kernel
theorem dX10_scoreOf_81 : decode cX10_scoreOf 81 = .ok (.imul, 1) := by decide +kernel
theorem dX10_scoreOf_82 : decode cX10_scoreOf 82 = .ok (.aload_n 0, 1) := by decide +kernel
theorem dX10_scoreOf_83 : decode cX10_scoreOf 83 = .ok (.getfield 20, 3) := by decide +kernel
theorem dX10_scoreOf_86 : decode cX10_scoreOf 86 = .ok (.bipush 16, 2) := by decide +kernel
theorem dX10_scoreOf_88 : decode cX10_scoreOf 88 = .ok (.iload_n 2, 1) := by decide +kernel
theorem dX10_scoreOf_89 : decode cX10_scoreOf 89 = .ok (.imul, 1) := by decide +kernel
theorem dX10_scoreOf_90 : decode cX10_scoreOf 90 = .ok (.invokestatic 169, 3) := by decide +kernel
theorem dX10_scoreOf_93 : decode cX10_scoreOf 93 = .ok (.fstore 7, 2) := by decide +kernel
theorem dX10_scoreOf_95 : decode cX10_scoreOf 95 = .ok (.iconst 1, 1) := by decide +kernel
theorem dX10_scoreOf_96 : decode cX10_scoreOf 96 = .ok (.istore 8, 2) := by decide +kernel
theorem dX10_scoreOf_98 : decode cX10_scoreOf 98 = .ok (.iload 8, 2) := by decide +kernel
theorem dX10_scoreOf_100 : decode cX10_scoreOf 100 = .ok (.aload_n 0, 1) := by decide +kernel
theorem dX10_scoreOf_101 : decode cX10_scoreOf 101 = .ok (.getfield 17, 3) := by decide +kernel
theorem dX10_scoreOf_104 : decode cX10_scoreOf 104 = .ok (.iload_n 2, 1) := by decide +kernel
theorem dX10_scoreOf_105 : decode cX10_scoreOf 105 = .ok (.iaload, 1) := by decide +kernel
theorem dX10_scoreOf_106 : decode cX10_scoreOf 106 = .ok (.if_icmp .ge 40, 3) := by decide +kernel
theorem dX10_scoreOf_109 : decode cX10_scoreOf 109 = .ok (.fload 7, 2) := by decide +kernel
theorem dX10_scoreOf_111 : decode cX10_scoreOf 111 = .ok (.aload_n 0, 1) := by decide +kernel
theorem dX10_scoreOf_112 : decode cX10_scoreOf 112 = .ok (.getfield 35, 3) := by decide +kernel
theorem dX10_scoreOf_115 : decode cX10_scoreOf 115 = .ok (.iconst 4, 1) := by decide +kernel
theorem dX10_scoreOf_116 : decode cX10_scoreOf 116 = .ok (.iload 6, 2) := by decide +kernel
theorem dX10_scoreOf_118 : decode cX10_scoreOf 118 = .ok (.imul, 1) := by decide +kernel
theorem dX10_scoreOf_119 : decode cX10_scoreOf 119 = .ok (.aload_n 0, 1) := by decide +kernel
theorem dX10_scoreOf_120 : decode cX10_scoreOf 120 = .ok (.getfield 20, 3) := by decide +kernel
theorem dX10_scoreOf_123 : decode cX10_scoreOf 123 = .ok (.bipush 16, 2) := by decide +kernel
theorem dX10_scoreOf_125 : decode cX10_scoreOf 125 = .ok (.iload_n 2, 1) := by decide +kernel
theorem dX10_scoreOf_126 : decode cX10_scoreOf 126 = .ok (.imul, 1) := by decide +kernel
theorem dX10_scoreOf_127 : decode cX10_scoreOf 127 = .ok (.iconst 4, 1) := by decide +kernel
theorem dX10_scoreOf_128 : decode cX10_scoreOf 128 = .ok (.iload 8, 2) := by decide +kernel
theorem dX10_scoreOf_130 : decode cX10_scoreOf 130 = .ok (.imul, 1) := by decide +kernel
theorem dX10_scoreOf_131 : decode cX10_scoreOf 131 = .ok (.iadd, 1) := by decide +kernel
theorem dX10_scoreOf_132 : decode cX10_scoreOf 132 = .ok (.invokestatic 169, 3) := by decide +kernel
theorem dX10_scoreOf_135 : decode cX10_scoreOf 135 = .ok (.invokestatic 173, 3) := by decide +kernel
theorem dX10_scoreOf_138 : decode cX10_scoreOf 138 = .ok (.fstore 7, 2) := by decide +kernel
theorem dX10_scoreOf_140 : decode cX10_scoreOf 140 = .ok (.iinc 8 1, 3) := by decide +kernel
theorem dX10_scoreOf_143 : decode cX10_scoreOf 143 = .ok (.goto (-45), 3) := by decide +kernel
theorem dX10_scoreOf_146 : decode cX10_scoreOf 146 = .ok (.fload 5, 2) := by decide +kernel
theorem dX10_scoreOf_148 : decode cX10_scoreOf 148 = .ok (.fload 7, 2) := by decide +kernel
theorem dX10_scoreOf_150 : decode cX10_scoreOf 150 = .ok (.fadd, 1) := by decide +kernel
theorem dX10_scoreOf_151 : decode cX10_scoreOf 151 = .ok (.fstore 5, 2) := by decide +kernel
theorem dX10_scoreOf_153 : decode cX10_scoreOf 153 = .ok (.iinc 6 1, 3) := by decide +kernel
theorem dX10_scoreOf_156 : decode cX10_scoreOf 156 = .ok (.goto (-91), 3) := by decide +kernel
theorem dX10_scoreOf_159 : decode cX10_scoreOf 159 = .ok (.fload 5, 2) := by decide +kernel
theorem dX10_scoreOf_161 : decode cX10_scoreOf 161 = .ok (.f2d, 1) := by decide +kernel
theorem dX10_scoreOf_162 : decode cX10_scoreOf 162 = .ok (.dreturn, 1) := by decide +kernel
theorem dX10_enter_0 : decode cX10_enter 0 = .ok (.aload_n 0, 1) := by decide +kernel
theorem dX10_enter_1 : decode cX10_enter 1 = .ok (.getfield 177, 3) := by decide +kernel
theorem dX10_enter_4 : decode cX10_enter 4 = .ok (.istore 5, 2) := by decide +kernel
theorem dX10_enter_6 : decode cX10_enter 6 = .ok (.iload 5, 2) := by decide +kernel
theorem dX10_enter_8 : decode cX10_enter 8 = .ok (.ifCond .le 50, 3) := by decide +kernel
theorem dX10_enter_11 : decode cX10_enter 11 = .ok (.aload_n 0, 1) := by decide +kernel
theorem dX10_enter_12 : decode cX10_enter 12 = .ok (.getfield 58, 3) := by decide +kernel
theorem dX10_enter_15 : decode cX10_enter 15 = .ok (.iload 5, 2) := by decide +kernel
theorem dX10_enter_17 : decode cX10_enter 17 = .ok (.iconst 1, 1) := by decide +kernel
theorem dX10_enter_18 : decode cX10_enter 18 = .ok (.isub, 1) := by decide +kernel
theorem dX10_enter_19 : decode cX10_enter 19 = .ok (.daload, 1) := by decide +kernel
theorem dX10_enter_20 : decode cX10_enter 20 = .ok (.dload_n 2, 1) := by decide +kernel
theorem dX10_enter_21 : decode cX10_enter 21 = .ok (.dcmp .g, 1) := by decide +kernel
theorem dX10_enter_22 : decode cX10_enter 22 = .ok (.ifCond .lt 30, 3) := by decide +kernel
theorem dX10_enter_25 : decode cX10_enter 25 = .ok (.aload_n 0, 1) := by decide +kernel
theorem dX10_enter_26 : decode cX10_enter 26 = .ok (.getfield 58, 3) := by decide +kernel
theorem dX10_enter_29 : decode cX10_enter 29 = .ok (.iload 5, 2) := by decide +kernel
theorem dX10_enter_31 : decode cX10_enter 31 = .ok (.iconst 1, 1) := by decide +kernel
theorem dX10_enter_32 : decode cX10_enter 32 = .ok (.isub, 1) := by decide +kernel
theorem dX10_enter_33 : decode cX10_enter 33 = .ok (.daload, 1) := by decide +kernel
theorem dX10_enter_34 : decode cX10_enter 34 = .ok (.dload_n 2, 1) := by decide +kernel
theorem dX10_enter_35 : decode cX10_enter 35 = .ok (.dcmp .l, 1) := by decide +kernel
theorem dX10_enter_36 : decode cX10_enter 36 = .ok (.ifCond .ne 22, 3) := by decide +kernel
theorem dX10_enter_39 : decode cX10_enter 39 = .ok (.aload_n 0, 1) := by decide +kernel
theorem dX10_enter_40 : decode cX10_enter 40 = .ok (.getfield 55, 3) := by decide +kernel
theorem dX10_enter_43 : decode cX10_enter 43 = .ok (.iload 5, 2) := by decide +kernel
theorem dX10_enter_45 : decode cX10_enter 45 = .ok (.iconst 1, 1) := by decide +kernel
theorem dX10_enter_46 : decode cX10_enter 46 = .ok (.isub, 1) := by decide +kernel
theorem dX10_enter_47 : decode cX10_enter 47 = .ok (.iaload, 1) := by decide +kernel
theorem dX10_enter_48 : decode cX10_enter 48 = .ok (.iload_n 1, 1) := by decide +kernel
theorem dX10_enter_49 : decode cX10_enter 49 = .ok (.if_icmp .le 9, 3) := by decide +kernel
theorem dX10_enter_52 : decode cX10_enter 52 = .ok (.iinc 5 (-1), 3) := by decide +kernel
theorem dX10_enter_55 : decode cX10_enter 55 = .ok (.goto (-49), 3) := by decide +kernel
theorem dX10_enter_58 : decode cX10_enter 58 = .ok (.aload_n 0, 1) := by decide +kernel
theorem dX10_enter_59 : decode cX10_enter 59 = .ok (.getfield 177, 3) := by decide +kernel
theorem dX10_enter_62 : decode cX10_enter 62 = .ok (.istore 6, 2) := by decide +kernel
theorem dX10_enter_64 : decode cX10_enter 64 = .ok (.iload 6, 2) := by decide +kernel
theorem dX10_enter_66 : decode cX10_enter 66 = .ok (.iload 5, 2) := by decide +kernel
theorem dX10_enter_68 : decode cX10_enter 68 = .ok (.if_icmp .le 41, 3) := by decide +kernel
theorem dX10_enter_71 : decode cX10_enter 71 = .ok (.aload_n 0, 1) := by decide +kernel
theorem dX10_enter_72 : decode cX10_enter 72 = .ok (.getfield 55, 3) := by decide +kernel
theorem dX10_enter_75 : decode cX10_enter 75 = .ok (.iload 6, 2) := by decide +kernel
theorem dX10_enter_77 : decode cX10_enter 77 = .ok (.aload_n 0, 1) := by decide +kernel
theorem dX10_enter_78 : decode cX10_enter 78 = .ok (.getfield 55, 3) := by decide +kernel
theorem dX10_enter_81 : decode cX10_enter 81 = .ok (.iload 6, 2) := by decide +kernel
theorem dX10_enter_83 : decode cX10_enter 83 = .ok (.iconst 1, 1) := by decide +kernel
theorem dX10_enter_84 : decode cX10_enter 84 = .ok (.isub, 1) := by decide +kernel
theorem dX10_enter_85 : decode cX10_enter 85 = .ok (.iaload, 1) := by decide +kernel
theorem dX10_enter_86 : decode cX10_enter 86 = .ok (.iastore, 1) := by decide +kernel
theorem dX10_enter_87 : decode cX10_enter 87 = .ok (.aload_n 0, 1) := by decide +kernel
theorem dX10_enter_88 : decode cX10_enter 88 = .ok (.getfield 58, 3) := by decide +kernel
theorem dX10_enter_91 : decode cX10_enter 91 = .ok (.iload 6, 2) := by decide +kernel
theorem dX10_enter_93 : decode cX10_enter 93 = .ok (.aload_n 0, 1) := by decide +kernel
theorem dX10_enter_94 : decode cX10_enter 94 = .ok (.getfield 58, 3) := by decide +kernel
theorem dX10_enter_97 : decode cX10_enter 97 = .ok (.iload 6, 2) := by decide +kernel
theorem dX10_enter_99 : decode cX10_enter 99 = .ok (.iconst 1, 1) := by decide +kernel
theorem dX10_enter_100 : decode cX10_enter 100 = .ok (.isub, 1) := by decide +kernel
theorem dX10_enter_101 : decode cX10_enter 101 = .ok (.daload, 1) := by decide +kernel
theorem dX10_enter_102 : decode cX10_enter 102 = .ok (.dastore, 1) := by decide +kernel
theorem dX10_enter_103 : decode cX10_enter 103 = .ok (.iinc 6 (-1), 3) := by decide +kernel
theorem dX10_enter_106 : decode cX10_enter 106 = .ok (.goto (-42), 3) := by decide +kernel
theorem dX10_enter_109 : decode cX10_enter 109 = .ok (.aload_n 0, 1) := by decide +kernel
theorem dX10_enter_110 : decode cX10_enter 110 = .ok (.getfield 55, 3) := by decide +kernel
theorem dX10_enter_113 : decode cX10_enter 113 = .ok (.iload 5, 2) := by decide +kernel
theorem dX10_enter_115 : decode cX10_enter 115 = .ok (.iload_n 1, 1) := by decide +kernel
theorem dX10_enter_116 : decode cX10_enter 116 = .ok (.iastore, 1) := by decide +kernel
theorem dX10_enter_117 : decode cX10_enter 117 = .ok (.aload_n 0, 1) := by decide +kernel
theorem dX10_enter_118 : decode cX10_enter 118 = .ok (.getfield 58, 3) := by decide +kernel
theorem dX10_enter_121 : decode cX10_enter 121 = .ok (.iload 5, 2) := by decide +kernel
theorem dX10_enter_123 : decode cX10_enter 123 = .ok (.dload_n 2, 1) := by decide +kernel
theorem dX10_enter_124 : decode cX10_enter 124 = .ok (.dastore, 1) := by decide +kernel
theorem dX10_enter_125 : decode cX10_enter 125 = .ok (.aload_n 0, 1) := by decide +kernel
theorem dX10_enter_126 : decode cX10_enter 126 = .ok (.aload_n 0, 1) := by decide +kernel
theorem dX10_enter_127 : decode cX10_enter 127 = .ok (.getfield 177, 3) := by decide +kernel
theorem dX10_enter_130 : decode cX10_enter 130 = .ok (.iload 4, 2) := by decide +kernel
theorem dX10_enter_132 : decode cX10_enter 132 = .ok (.if_icmp .ge 12, 3) := by decide +kernel
theorem dX10_enter_135 : decode cX10_enter 135 = .ok (.aload_n 0, 1) := by decide +kernel
theorem dX10_enter_136 : decode cX10_enter 136 = .ok (.getfield 177, 3) := by decide +kernel
theorem dX10_enter_139 : decode cX10_enter 139 = .ok (.iconst 1, 1) := by decide +kernel
theorem dX10_enter_140 : decode cX10_enter 140 = .ok (.iadd, 1) := by decide +kernel
theorem dX10_enter_141 : decode cX10_enter 141 = .ok (.goto 5, 3) := by decide +kernel
theorem dX10_enter_144 : decode cX10_enter 144 = .ok (.iload 4, 2) := by decide +kernel
theorem dX10_enter_146 : decode cX10_enter 146 = .ok (.putfield 177, 3) := by decide +kernel
theorem dX10_enter_149 : decode cX10_enter 149 = .ok (.return_, 1) := by decide +kernel
theorem dX10_score_0 : decode cX10_score 0 = .ok (.aload_n 0, 1) := by decide +kernel
theorem dX10_score_1 : decode cX10_score 1 = .ok (.dup, 1) := by decide +kernel
theorem dX10_score_2 : decode cX10_score 2 = .ok (.getfield 180, 3) := by decide +kernel
theorem dX10_score_5 : decode cX10_score 5 = .ok (.iconst 1, 1) := by decide +kernel
theorem dX10_score_6 : decode cX10_score 6 = .ok (.iadd, 1) := by decide +kernel
theorem dX10_score_7 : decode cX10_score 7 = .ok (.putfield 180, 3) := by decide +kernel
theorem dX10_score_10 : decode cX10_score 10 = .ok (.aload_n 0, 1) := by decide +kernel
theorem dX10_score_11 : decode cX10_score 11 = .ok (.iload_n 2, 1) := by decide +kernel
theorem dX10_score_12 : decode cX10_score 12 = .ok (.aload_n 0, 1) := by decide +kernel
theorem dX10_score_13 : decode cX10_score 13 = .ok (.iload_n 1, 1) := by decide +kernel
theorem dX10_score_14 : decode cX10_score 14 = .ok (.iload_n 2, 1) := by decide +kernel
theorem dX10_score_15 : decode cX10_score 15 = .ok (.invokevirtual 183, 3) := by decide +kernel
theorem dX10_score_18 : decode cX10_score 18 = .ok (.iload_n 3, 1) := by decide +kernel
theorem dX10_score_19 : decode cX10_score 19 = .ok (.invokevirtual 186, 3) := by decide +kernel
theorem dX10_score_22 : decode cX10_score 22 = .ok (.return_, 1) := by decide +kernel
theorem dX10_bound_0 : decode cX10_bound 0 = .ok (.dconst 0, 1) := by decide +kernel
theorem dX10_bound_1 : decode cX10_bound 1 = .ok (.dstore 4, 2) := by decide +kernel
theorem dX10_bound_3 : decode cX10_bound 3 = .ok (.iconst 4, 1) := by decide +kernel
theorem dX10_bound_4 : decode cX10_bound 4 = .ok (.iload_n 2, 1) := by decide +kernel
theorem dX10_bound_5 : decode cX10_bound 5 = .ok (.imul, 1) := by decide +kernel
theorem dX10_bound_6 : decode cX10_bound 6 = .ok (.istore 6, 2) := by decide +kernel
theorem dX10_bound_8 : decode cX10_bound 8 = .ok (.iload 6, 2) := by decide +kernel
theorem dX10_bound_10 : decode cX10_bound 10 = .ok (.iconst 4, 1) := by decide +kernel
theorem dX10_bound_11 : decode cX10_bound 11 = .ok (.iload_n 2, 1) := by decide +kernel
theorem dX10_bound_12 : decode cX10_bound 12 = .ok (.imul, 1) := by decide +kernel
theorem dX10_bound_13 : decode cX10_bound 13 = .ok (.iconst 4, 1) := by decide +kernel
theorem dX10_bound_14 : decode cX10_bound 14 = .ok (.iadd, 1) := by decide +kernel
theorem dX10_bound_15 : decode cX10_bound 15 = .ok (.if_icmp .ge 60, 3) := by decide +kernel
theorem dX10_bound_18 : decode cX10_bound 18 = .ok (.iload 6, 2) := by decide +kernel
theorem dX10_bound_20 : decode cX10_bound 20 = .ok (.aload_n 0, 1) := by decide +kernel
theorem dX10_bound_21 : decode cX10_bound 21 = .ok (.getfield 86, 3) := by decide +kernel
theorem dX10_bound_24 : decode cX10_bound 24 = .ok (.if_icmp .ge 51, 3) := by decide +kernel
theorem dX10_bound_27 : decode cX10_bound 27 = .ok (.aload_n 0, 1) := by decide +kernel
theorem dX10_bound_28 : decode cX10_bound 28 = .ok (.iload_n 1, 1) := by decide +kernel
theorem dX10_bound_29 : decode cX10_bound 29 = .ok (.iload 6, 2) := by decide +kernel
theorem dX10_bound_31 : decode cX10_bound 31 = .ok (.iload_n 3, 1) := by decide +kernel
theorem dX10_bound_32 : decode cX10_bound 32 = .ok (.invokevirtual 161, 3) := by decide +kernel
theorem dX10_bound_35 : decode cX10_bound 35 = .ok (.ifCond .eq 14, 3) := by decide +kernel
theorem dX10_bound_38 : decode cX10_bound 38 = .ok (.aload_n 0, 1) := by decide +kernel
theorem dX10_bound_39 : decode cX10_bound 39 = .ok (.iload_n 1, 1) := by decide +kernel
theorem dX10_bound_40 : decode cX10_bound 40 = .ok (.iload 6, 2) := by decide +kernel
theorem dX10_bound_42 : decode cX10_bound 42 = .ok (.iload_n 3, 1) := by decide +kernel
theorem dX10_bound_43 : decode cX10_bound 43 = .ok (.invokevirtual 165, 3) := by decide +kernel
theorem dX10_bound_46 : decode cX10_bound 46 = .ok (.goto 4, 3) := by decide +kernel
theorem dX10_bound_49 : decode cX10_bound 49 = .ok (.dconst 0, 1) := by decide +kernel
theorem dX10_bound_50 : decode cX10_bound 50 = .ok (.dstore 7, 2) := by decide +kernel
theorem dX10_bound_52 : decode cX10_bound 52 = .ok (.dload 7, 2) := by decide +kernel
theorem dX10_bound_54 : decode cX10_bound 54 = .ok (.dload 4, 2) := by decide +kernel
theorem dX10_bound_56 : decode cX10_bound 56 = .ok (.dcmp .l, 1) := by decide +kernel
theorem dX10_bound_57 : decode cX10_bound 57 = .ok (.ifCond .le 8, 3) := by decide +kernel
theorem dX10_bound_60 : decode cX10_bound 60 = .ok (.dload 7, 2) := by decide +kernel
theorem dX10_bound_62 : decode cX10_bound 62 = .ok (.goto 5, 3) := by decide +kernel
theorem dX10_bound_65 : decode cX10_bound 65 = .ok (.dload 4, 2) := by decide +kernel
theorem dX10_bound_67 : decode cX10_bound 67 = .ok (.dstore 4, 2) := by decide +kernel
theorem dX10_bound_69 : decode cX10_bound 69 = .ok (.iinc 6 1, 3) := by decide +kernel
theorem dX10_bound_72 : decode cX10_bound 72 = .ok (.goto (-64), 3) := by decide +kernel
theorem dX10_bound_75 : decode cX10_bound 75 = .ok (.dload 4, 2) := by decide +kernel
theorem dX10_bound_77 : decode cX10_bound 77 = .ok (.dreturn, 1) := by decide +kernel
theorem dX10_boundOf_0 : decode cX10_boundOf 0 = .ok (.dconst 0, 1) := by decide +kernel
theorem dX10_boundOf_1 : decode cX10_boundOf 1 = .ok (.dstore 4, 2) := by decide +kernel
theorem dX10_boundOf_3 : decode cX10_boundOf 3 = .ok (.iconst 0, 1) := by decide +kernel
theorem dX10_boundOf_4 : decode cX10_boundOf 4 = .ok (.istore 6, 2) := by decide +kernel
theorem dX10_boundOf_6 : decode cX10_boundOf 6 = .ok (.iload 6, 2) := by decide +kernel
theorem dX10_boundOf_8 : decode cX10_boundOf 8 = .ok (.aload_n 0, 1) := by decide +kernel
theorem dX10_boundOf_9 : decode cX10_boundOf 9 = .ok (.iload_n 1, 1) := by decide +kernel
theorem dX10_boundOf_10 : decode cX10_boundOf 10 = .ok (.invokevirtual 158, 3) := by decide +kernel
theorem dX10_boundOf_13 : decode cX10_boundOf 13 = .ok (.if_icmp .ge 43, 3) := by decide +kernel
theorem dX10_boundOf_16 : decode cX10_boundOf 16 = .ok (.iload_n 3, 1) := by decide +kernel
theorem dX10_boundOf_17 : decode cX10_boundOf 17 = .ok (.iconst (-1), 1) := by decide +kernel
theorem dX10_boundOf_18 : decode cX10_boundOf 18 = .ok (.if_icmp .eq 14, 3) := by decide +kernel
theorem dX10_boundOf_21 : decode cX10_boundOf 21 = .ok (.aload_n 0, 1) := by decide +kernel
theorem dX10_boundOf_22 : decode cX10_boundOf 22 = .ok (.iload_n 1, 1) := by decide +kernel
theorem dX10_boundOf_23 : decode cX10_boundOf 23 = .ok (.iload_n 3, 1) := by decide +kernel
theorem dX10_boundOf_24 : decode cX10_boundOf 24 = .ok (.iload 6, 2) := by decide +kernel
theorem dX10_boundOf_26 : decode cX10_boundOf 26 = .ok (.invokevirtual 161, 3) := by decide +kernel
theorem dX10_boundOf_29 : decode cX10_boundOf 29 = .ok (.ifCond .eq 17, 3) := by decide +kernel
theorem dX10_boundOf_32 : decode cX10_boundOf 32 = .ok (.dload 4, 2) := by decide +kernel
theorem dX10_boundOf_34 : decode cX10_boundOf 34 = .ok (.aload_n 0, 1) := by decide +kernel
theorem dX10_boundOf_35 : decode cX10_boundOf 35 = .ok (.iload_n 1, 1) := by decide +kernel
theorem dX10_boundOf_36 : decode cX10_boundOf 36 = .ok (.iload_n 2, 1) := by decide +kernel
theorem dX10_boundOf_37 : decode cX10_boundOf 37 = .ok (.iload 6, 2) := by decide +kernel
theorem dX10_boundOf_39 : decode cX10_boundOf 39 = .ok (.invokevirtual 190, 3) := by decide +kernel
theorem dX10_boundOf_42 : decode cX10_boundOf 42 = .ok (.dadd, 1) := by decide +kernel
theorem dX10_boundOf_43 : decode cX10_boundOf 43 = .ok (.goto 5, 3) := by decide +kernel
theorem dX10_boundOf_46 : decode cX10_boundOf 46 = .ok (.dload 4, 2) := by decide +kernel
theorem dX10_boundOf_48 : decode cX10_boundOf 48 = .ok (.dstore 4, 2) := by decide +kernel
theorem dX10_boundOf_50 : decode cX10_boundOf 50 = .ok (.iinc 6 1, 3) := by decide +kernel
theorem dX10_boundOf_53 : decode cX10_boundOf 53 = .ok (.goto (-47), 3) := by decide +kernel
theorem dX10_boundOf_56 : decode cX10_boundOf 56 = .ok (.dload 4, 2) := by decide +kernel
theorem dX10_boundOf_58 : decode cX10_boundOf 58 = .ok (.dreturn, 1) := by decide +kernel
theorem dX10_isBeaten_0 : decode cX10_isBeaten 0 = .ok (.aload_n 0, 1) := by decide +kernel
theorem dX10_isBeaten_1 : decode cX10_isBeaten 1 = .ok (.getfield 177, 3) := by decide +kernel
theorem dX10_isBeaten_4 : decode cX10_isBeaten 4 = .ok (.iload_n 3, 1) := by decide +kernel
theorem dX10_isBeaten_5 : decode cX10_isBeaten 5 = .ok (.if_icmp .ne 24, 3) := by decide +kernel
theorem dX10_isBeaten_8 : decode cX10_isBeaten 8 = .ok (.iload_n 3, 1) := by decide +kernel
theorem dX10_isBeaten_9 : decode cX10_isBeaten 9 = .ok (.ifCond .eq 16, 3) := by decide +kernel
theorem dX10_isBeaten_12 : decode cX10_isBeaten 12 = .ok (.dload_n 1, 1) := by decide +kernel
theorem dX10_isBeaten_13 : decode cX10_isBeaten 13 = .ok (.aload_n 0, 1) := by decide +kernel
theorem dX10_isBeaten_14 : decode cX10_isBeaten 14 = .ok (.getfield 58, 3) := by decide +kernel
theorem dX10_isBeaten_17 : decode cX10_isBeaten 17 = .ok (.iload_n 3, 1) := by decide +kernel
theorem dX10_isBeaten_18 : decode cX10_isBeaten 18 = .ok (.iconst 1, 1) := by decide +kernel
theorem dX10_isBeaten_19 : decode cX10_isBeaten 19 = .ok (.isub, 1) := by decide +kernel
theorem dX10_isBeaten_20 : decode cX10_isBeaten 20 = .ok (.daload, 1) := by decide +kernel
theorem dX10_isBeaten_21 : decode cX10_isBeaten 21 = .ok (.dcmp .l, 1) := by decide +kernel
theorem dX10_isBeaten_22 : decode cX10_isBeaten 22 = .ok (.ifCond .gt 7, 3) := by decide +kernel
theorem dX10_isBeaten_25 : decode cX10_isBeaten 25 = .ok (.iconst 1, 1) := by decide +kernel
theorem dX10_isBeaten_26 : decode cX10_isBeaten 26 = .ok (.goto 4, 3) := by decide +kernel
theorem dX10_isBeaten_29 : decode cX10_isBeaten 29 = .ok (.iconst 0, 1) := by decide +kernel
theorem dX10_isBeaten_30 : decode cX10_isBeaten 30 = .ok (.ireturn, 1) := by decide +kernel
theorem dX10_prune_0 : decode cX10_prune 0 = .ok (.iconst 0, 1) := by decide +kernel
theorem dX10_prune_1 : decode cX10_prune 1 = .ok (.istore 5, 2) := by decide +kernel
theorem dX10_prune_3 : decode cX10_prune 3 = .ok (.iconst 4, 1) := by decide +kernel
theorem dX10_prune_4 : decode cX10_prune 4 = .ok (.iload 5, 2) := by decide +kernel
theorem dX10_prune_6 : decode cX10_prune 6 = .ok (.imul, 1) := by decide +kernel
theorem dX10_prune_7 : decode cX10_prune 7 = .ok (.aload_n 0, 1) := by decide +kernel
theorem dX10_prune_8 : decode cX10_prune 8 = .ok (.getfield 86, 3) := by decide +kernel
theorem dX10_prune_11 : decode cX10_prune 11 = .ok (.if_icmp .ge 195, 3) := by decide +kernel
theorem dX10_prune_14 : decode cX10_prune 14 = .ok (.iconst 0, 1) := by decide +kernel
theorem dX10_prune_15 : decode cX10_prune 15 = .ok (.istore 6, 2) := by decide +kernel
theorem dX10_prune_17 : decode cX10_prune 17 = .ok (.iconst 4, 1) := by decide +kernel
theorem dX10_prune_18 : decode cX10_prune 18 = .ok (.iload 5, 2) := by decide +kernel
theorem dX10_prune_20 : decode cX10_prune 20 = .ok (.imul, 1) := by decide +kernel
theorem dX10_prune_21 : decode cX10_prune 21 = .ok (.istore 7, 2) := by decide +kernel
theorem dX10_prune_23 : decode cX10_prune 23 = .ok (.iload 7, 2) := by decide +kernel
theorem dX10_prune_25 : decode cX10_prune 25 = .ok (.iconst 4, 1) := by decide +kernel
theorem dX10_prune_26 : decode cX10_prune 26 = .ok (.iload 5, 2) := by decide +kernel
theorem dX10_prune_28 : decode cX10_prune 28 = .ok (.imul, 1) := by decide +kernel
theorem dX10_prune_29 : decode cX10_prune 29 = .ok (.iconst 4, 1) := by decide +kernel
theorem dX10_prune_30 : decode cX10_prune 30 = .ok (.iadd, 1) := by decide +kernel
theorem dX10_prune_31 : decode cX10_prune 31 = .ok (.if_icmp .ge 38, 3) := by decide +kernel
theorem dX10_prune_34 : decode cX10_prune 34 = .ok (.iload 7, 2) := by decide +kernel
theorem dX10_prune_36 : decode cX10_prune 36 = .ok (.aload_n 0, 1) := by decide +kernel
theorem dX10_prune_37 : decode cX10_prune 37 = .ok (.getfield 86, 3) := by decide +kernel
theorem dX10_prune_40 : decode cX10_prune 40 = .ok (.if_icmp .ge 29, 3) := by decide +kernel
theorem dX10_prune_43 : decode cX10_prune 43 = .ok (.iload 6, 2) := by decide +kernel
theorem dX10_prune_45 : decode cX10_prune 45 = .ok (.ifCond .ne 11, 3) := by decide +kernel
theorem dX10_prune_48 : decode cX10_prune 48 = .ok (.iload 7, 2) := by decide +kernel
theorem dX10_prune_50 : decode cX10_prune 50 = .ok (.iload_n 3, 1) := by decide +kernel
theorem dX10_prune_51 : decode cX10_prune 51 = .ok (.irem, 1) := by decide +kernel
theorem dX10_prune_52 : decode cX10_prune 52 = .ok (.iload_n 2, 1) := by decide +kernel
theorem dX10_prune_53 : decode cX10_prune 53 = .ok (.if_icmp .ne 7, 3) := by decide +kernel
theorem dX10_prune_56 : decode cX10_prune 56 = .ok (.iconst 1, 1) := by decide +kernel
theorem dX10_prune_57 : decode cX10_prune 57 = .ok (.goto 4, 3) := by decide +kernel
theorem dX10_prune_60 : decode cX10_prune 60 = .ok (.iconst 0, 1) := by decide +kernel
theorem dX10_prune_61 : decode cX10_prune 61 = .ok (.istore 6, 2) := by decide +kernel
theorem dX10_prune_63 : decode cX10_prune 63 = .ok (.iinc 7 1, 3) := by decide +kernel
theorem dX10_prune_66 : decode cX10_prune 66 = .ok (.goto (-43), 3) := by decide +kernel
theorem dX10_prune_69 : decode cX10_prune 69 = .ok (.iload 6, 2) := by decide +kernel
theorem dX10_prune_71 : decode cX10_prune 71 = .ok (.ifCond .ne 6, 3) := by decide +kernel
theorem dX10_prune_74 : decode cX10_prune 74 = .ok (.goto 126, 3) := by decide +kernel
theorem dX10_prune_77 : decode cX10_prune 77 = .ok (.aload_n 0, 1) := by decide +kernel
theorem dX10_prune_78 : decode cX10_prune 78 = .ok (.aload_n 0, 1) := by decide +kernel
theorem dX10_prune_79 : decode cX10_prune 79 = .ok (.iload_n 1, 1) := by decide +kernel
theorem dX10_prune_80 : decode cX10_prune 80 = .ok (.iload 5, 2) := by decide +kernel
theorem dX10_prune_82 : decode cX10_prune 82 = .ok (.iconst (-1), 1) := by decide +kernel
theorem dX10_prune_83 : decode cX10_prune 83 = .ok (.invokevirtual 193, 3) := by decide +kernel
theorem dX10_prune_86 : decode cX10_prune 86 = .ok (.iload 4, 2) := by decide +kernel
theorem dX10_prune_88 : decode cX10_prune 88 = .ok (.invokevirtual 196, 3) := by decide +kernel
theorem dX10_prune_91 : decode cX10_prune 91 = .ok (.ifCond .eq 16, 3) := by decide +kernel
theorem dX10_prune_94 : decode cX10_prune 94 = .ok (.aload_n 0, 1) := by decide +kernel
theorem dX10_prune_95 : decode cX10_prune 95 = .ok (.dup, 1) := by decide +kernel
theorem dX10_prune_96 : decode cX10_prune 96 = .ok (.getfield 200, 3) := by decide +kernel
theorem dX10_prune_99 : decode cX10_prune 99 = .ok (.iconst 1, 1) := by decide +kernel
theorem dX10_prune_100 : decode cX10_prune 100 = .ok (.iadd, 1) := by decide +kernel
theorem dX10_prune_101 : decode cX10_prune 101 = .ok (.putfield 200, 3) := by decide +kernel
theorem dX10_prune_104 : decode cX10_prune 104 = .ok (.goto 96, 3) := by decide +kernel
theorem dX10_prune_107 : decode cX10_prune 107 = .ok (.iconst 4, 1) := by decide +kernel
theorem dX10_prune_108 : decode cX10_prune 108 = .ok (.iload 5, 2) := by decide +kernel
theorem dX10_prune_110 : decode cX10_prune 110 = .ok (.imul, 1) := by decide +kernel
theorem dX10_prune_111 : decode cX10_prune 111 = .ok (.istore 7, 2) := by decide +kernel
theorem dX10_prune_113 : decode cX10_prune 113 = .ok (.iload 7, 2) := by decide +kernel
theorem dX10_prune_115 : decode cX10_prune 115 = .ok (.iconst 4, 1) := by decide +kernel
theorem dX10_prune_116 : decode cX10_prune 116 = .ok (.iload 5, 2) := by decide +kernel
theorem dX10_prune_118 : decode cX10_prune 118 = .ok (.imul, 1) := by decide +kernel
theorem dX10_prune_119 : decode cX10_prune 119 = .ok (.iconst 4, 1) := by decide +kernel
theorem dX10_prune_120 : decode cX10_prune 120 = .ok (.iadd, 1) := by decide +kernel
theorem dX10_prune_121 : decode cX10_prune 121 = .ok (.if_icmp .ge 79, 3) := by decide +kernel
theorem dX10_prune_124 : decode cX10_prune 124 = .ok (.iload 7, 2) := by decide +kernel
theorem dX10_prune_126 : decode cX10_prune 126 = .ok (.aload_n 0, 1) := by decide +kernel
theorem dX10_prune_127 : decode cX10_prune 127 = .ok (.getfield 86, 3) := by decide +kernel
theorem dX10_prune_130 : decode cX10_prune 130 = .ok (.if_icmp .ge 70, 3) := by decide +kernel
theorem dX10_prune_133 : decode cX10_prune 133 = .ok (.iload 7, 2) := by decide +kernel
theorem dX10_prune_135 : decode cX10_prune 135 = .ok (.iload_n 3, 1) := by decide +kernel
theorem dX10_prune_136 : decode cX10_prune 136 = .ok (.irem, 1) := by decide +kernel
theorem dX10_prune_137 : decode cX10_prune 137 = .ok (.iload_n 2, 1) := by decide +kernel
theorem dX10_prune_138 : decode cX10_prune 138 = .ok (.if_icmp .ne 56, 3) := by decide +kernel
theorem dX10_prune_141 : decode cX10_prune 141 = .ok (.aload_n 0, 1) := by decide +kernel
theorem dX10_prune_142 : decode cX10_prune 142 = .ok (.iload_n 1, 1) := by decide +kernel
theorem dX10_prune_143 : decode cX10_prune 143 = .ok (.iload 7, 2) := by decide +kernel
theorem dX10_prune_145 : decode cX10_prune 145 = .ok (.invokevirtual 203, 3) := by decide +kernel
theorem dX10_prune_148 : decode cX10_prune 148 = .ok (.ifCond .ne 6, 3) := by decide +kernel
theorem dX10_prune_151 : decode cX10_prune 151 = .ok (.goto 43, 3) := by decide +kernel
theorem dX10_prune_154 : decode cX10_prune 154 = .ok (.aload_n 0, 1) := by decide +kernel
theorem dX10_prune_155 : decode cX10_prune 155 = .ok (.aload_n 0, 1) := by decide +kernel
theorem dX10_prune_156 : decode cX10_prune 156 = .ok (.iload_n 1, 1) := by decide +kernel
theorem dX10_prune_157 : decode cX10_prune 157 = .ok (.iload 5, 2) := by decide +kernel
theorem dX10_prune_159 : decode cX10_prune 159 = .ok (.iload 7, 2) := by decide +kernel
theorem dX10_prune_161 : decode cX10_prune 161 = .ok (.invokevirtual 193, 3) := by decide +kernel
theorem dX10_prune_164 : decode cX10_prune 164 = .ok (.iload 4, 2) := by decide +kernel
theorem dX10_prune_166 : decode cX10_prune 166 = .ok (.invokevirtual 196, 3) := by decide +kernel
theorem dX10_prune_169 : decode cX10_prune 169 = .ok (.ifCond .eq 16, 3) := by decide +kernel
theorem dX10_prune_172 : decode cX10_prune 172 = .ok (.aload_n 0, 1) := by decide +kernel
theorem dX10_prune_173 : decode cX10_prune 173 = .ok (.dup, 1) := by decide +kernel
theorem dX10_prune_174 : decode cX10_prune 174 = .ok (.getfield 206, 3) := by decide +kernel
theorem dX10_prune_177 : decode cX10_prune 177 = .ok (.iconst 1, 1) := by decide +kernel
theorem dX10_prune_178 : decode cX10_prune 178 = .ok (.iadd, 1) := by decide +kernel
theorem dX10_prune_179 : decode cX10_prune 179 = .ok (.putfield 206, 3) := by decide +kernel
theorem dX10_prune_182 : decode cX10_prune 182 = .ok (.goto 12, 3) := by decide +kernel
theorem dX10_prune_185 : decode cX10_prune 185 = .ok (.aload_n 0, 1) := by decide +kernel
theorem dX10_prune_186 : decode cX10_prune 186 = .ok (.iload_n 1, 1) := by decide +kernel
theorem dX10_prune_187 : decode cX10_prune 187 = .ok (.iload 7, 2) := by decide +kernel
theorem dX10_prune_189 : decode cX10_prune 189 = .ok (.iload 4, 2) := by decide +kernel
theorem dX10_prune_191 : decode cX10_prune 191 = .ok (.invokevirtual 209, 3) := by decide +kernel
theorem dX10_prune_194 : decode cX10_prune 194 = .ok (.iinc 7 1, 3) := by decide +kernel
theorem dX10_prune_197 : decode cX10_prune 197 = .ok (.goto (-84), 3) := by decide +kernel
theorem dX10_prune_200 : decode cX10_prune 200 = .ok (.iinc 5 1, 3) := by decide +kernel
theorem dX10_prune_203 : decode cX10_prune 203 = .ok (.goto (-200), 3) := by decide +kernel
theorem dX10_prune_206 : decode cX10_prune 206 = .ok (.return_, 1) := by decide +kernel
theorem dX10_nearest_0 : decode cX10_nearest 0 = .ok (.iconst 0, 1) := by decide +kernel
theorem dX10_nearest_1 : decode cX10_nearest 1 = .ok (.istore_n 3, 1) := by decide +kernel
theorem dX10_nearest_2 : decode cX10_nearest 2 = .ok (.iconst 1, 1) := by decide +kernel
theorem dX10_nearest_3 : decode cX10_nearest 3 = .ok (.istore 4, 2) := by decide +kernel
theorem dX10_nearest_5 : decode cX10_nearest 5 = .ok (.iload 4, 2) := by decide +kernel
theorem dX10_nearest_7 : decode cX10_nearest 7 = .ok (.aload_n 0, 1) := by decide +kernel
theorem dX10_nearest_8 : decode cX10_nearest 8 = .ok (.getfield 104, 3) := by decide +kernel
theorem dX10_nearest_11 : decode cX10_nearest 11 = .ok (.if_icmp .ge 45, 3) := by decide +kernel
theorem dX10_nearest_14 : decode cX10_nearest 14 = .ok (.aload_n 1, 1) := by decide +kernel
theorem dX10_nearest_15 : decode cX10_nearest 15 = .ok (.iload_n 2, 1) := by decide +kernel
theorem dX10_nearest_16 : decode cX10_nearest 16 = .ok (.aload_n 0, 1) := by decide +kernel
theorem dX10_nearest_17 : decode cX10_nearest 17 = .ok (.getfield 23, 3) := by decide +kernel
theorem dX10_nearest_20 : decode cX10_nearest 20 = .ok (.iconst 4, 1) := by decide +kernel
theorem dX10_nearest_21 : decode cX10_nearest 21 = .ok (.iload 4, 2) := by decide +kernel
theorem dX10_nearest_23 : decode cX10_nearest 23 = .ok (.imul, 1) := by decide +kernel
theorem dX10_nearest_24 : decode cX10_nearest 24 = .ok (.invokestatic 169, 3) := by decide +kernel
theorem dX10_nearest_27 : decode cX10_nearest 27 = .ok (.aload_n 1, 1) := by decide +kernel
theorem dX10_nearest_28 : decode cX10_nearest 28 = .ok (.iload_n 2, 1) := by decide +kernel
theorem dX10_nearest_29 : decode cX10_nearest 29 = .ok (.aload_n 0, 1) := by decide +kernel
theorem dX10_nearest_30 : decode cX10_nearest 30 = .ok (.getfield 23, 3) := by decide +kernel
theorem dX10_nearest_33 : decode cX10_nearest 33 = .ok (.iconst 4, 1) := by decide +kernel
theorem dX10_nearest_34 : decode cX10_nearest 34 = .ok (.iload_n 3, 1) := by decide +kernel
theorem dX10_nearest_35 : decode cX10_nearest 35 = .ok (.imul, 1) := by decide +kernel
theorem dX10_nearest_36 : decode cX10_nearest 36 = .ok (.invokestatic 169, 3) := by decide +kernel
theorem dX10_nearest_39 : decode cX10_nearest 39 = .ok (.fcmp .l, 1) := by decide +kernel
theorem dX10_nearest_40 : decode cX10_nearest 40 = .ok (.ifCond .le 8, 3) := by decide +kernel
theorem dX10_nearest_43 : decode cX10_nearest 43 = .ok (.iload 4, 2) := by decide +kernel
theorem dX10_nearest_45 : decode cX10_nearest 45 = .ok (.goto 4, 3) := by decide +kernel
theorem dX10_nearest_48 : decode cX10_nearest 48 = .ok (.iload_n 3, 1) := by decide +kernel
theorem dX10_nearest_49 : decode cX10_nearest 49 = .ok (.istore_n 3, 1) := by decide +kernel
theorem dX10_nearest_50 : decode cX10_nearest 50 = .ok (.iinc 4 1, 3) := by decide +kernel
theorem dX10_nearest_53 : decode cX10_nearest 53 = .ok (.goto (-48), 3) := by decide +kernel
theorem dX10_nearest_56 : decode cX10_nearest 56 = .ok (.iload_n 3, 1) := by decide +kernel
theorem dX10_nearest_57 : decode cX10_nearest 57 = .ok (.ireturn, 1) := by decide +kernel
theorem dX10_isCandidate_0 : decode cX10_isCandidate 0 = .ok (.iconst 0, 1) := by decide +kernel
theorem dX10_isCandidate_1 : decode cX10_isCandidate 1 = .ok (.istore_n 2, 1) := by decide +kernel
theorem dX10_isCandidate_2 : decode cX10_isCandidate 2 = .ok (.iconst 0, 1) := by decide +kernel
theorem dX10_isCandidate_3 : decode cX10_isCandidate 3 = .ok (.istore_n 3, 1) := by decide +kernel
theorem dX10_isCandidate_4 : decode cX10_isCandidate 4 = .ok (.iload_n 3, 1) := by decide +kernel
theorem dX10_isCandidate_5 : decode cX10_isCandidate 5 = .ok (.aload_n 0, 1) := by decide +kernel
theorem dX10_isCandidate_6 : decode cX10_isCandidate 6 = .ok (.getfield 17, 3) := by decide +kernel
theorem dX10_isCandidate_9 : decode cX10_isCandidate 9 = .ok (.iload_n 1, 1) := by decide +kernel
theorem dX10_isCandidate_10 : decode cX10_isCandidate 10 = .ok (.iaload, 1) := by decide +kernel
theorem dX10_isCandidate_11 : decode cX10_isCandidate 11 = .ok (.if_icmp .ge 68, 3) := by decide +kernel
theorem dX10_isCandidate_14 : decode cX10_isCandidate 14 = .ok (.iconst 0, 1) := by decide +kernel
theorem dX10_isCandidate_15 : decode cX10_isCandidate 15 = .ok (.istore 4, 2) := by decide +kernel
theorem dX10_isCandidate_17 : decode cX10_isCandidate 17 = .ok (.iload 4, 2) := by decide +kernel
theorem dX10_isCandidate_19 : decode cX10_isCandidate 19 = .ok (.aload_n 0, 1) := by decide +kernel
theorem dX10_isCandidate_20 : decode cX10_isCandidate 20 = .ok (.getfield 113, 3) := by decide +kernel
theorem dX10_isCandidate_23 : decode cX10_isCandidate 23 = .ok (.if_icmp .ge 50, 3) := by decide +kernel
theorem dX10_isCandidate_26 : decode cX10_isCandidate 26 = .ok (.iload_n 2, 1) := by decide +kernel
theorem dX10_isCandidate_27 : decode cX10_isCandidate 27 = .ok (.ifCond .ne 34, 3) := by decide +kernel
theorem dX10_isCandidate_30 : decode cX10_isCandidate 30 = .ok (.aload_n 0, 1) := by decide +kernel
theorem dX10_isCandidate_31 : decode cX10_isCandidate 31 = .ok (.aload_n 0, 1) := by decide +kernel
theorem dX10_isCandidate_32 : decode cX10_isCandidate 32 = .ok (.getfield 20, 3) := by decide +kernel
theorem dX10_isCandidate_35 : decode cX10_isCandidate 35 = .ok (.bipush 16, 2) := by decide +kernel
theorem dX10_isCandidate_37 : decode cX10_isCandidate 37 = .ok (.iload_n 1, 1) := by decide +kernel
theorem dX10_isCandidate_38 : decode cX10_isCandidate 38 = .ok (.imul, 1) := by decide +kernel
theorem dX10_isCandidate_39 : decode cX10_isCandidate 39 = .ok (.iconst 4, 1) := by decide +kernel
theorem dX10_isCandidate_40 : decode cX10_isCandidate 40 = .ok (.iload_n 3, 1) := by decide +kernel
theorem dX10_isCandidate_41 : decode cX10_isCandidate 41 = .ok (.imul, 1) := by decide +kernel
theorem dX10_isCandidate_42 : decode cX10_isCandidate 42 = .ok (.iadd, 1) := by decide +kernel
theorem dX10_isCandidate_43 : decode cX10_isCandidate 43 = .ok (.invokevirtual 213, 3) := by decide +kernel
theorem dX10_isCandidate_46 : decode cX10_isCandidate 46 = .ok (.aload_n 0, 1) := by decide +kernel
theorem dX10_isCandidate_47 : decode cX10_isCandidate 47 = .ok (.aload_n 0, 1) := by decide +kernel
theorem dX10_isCandidate_48 : decode cX10_isCandidate 48 = .ok (.getfield 35, 3) := by decide +kernel
theorem dX10_isCandidate_51 : decode cX10_isCandidate 51 = .ok (.iconst 4, 1) := by decide +kernel
theorem dX10_isCandidate_52 : decode cX10_isCandidate 52 = .ok (.iload 4, 2) := by decide +kernel
theorem dX10_isCandidate_54 : decode cX10_isCandidate 54 = .ok (.imul, 1) := by decide +kernel
theorem dX10_isCandidate_55 : decode cX10_isCandidate 55 = .ok (.invokevirtual 213, 3) := by decide +kernel
theorem dX10_isCandidate_58 : decode cX10_isCandidate 58 = .ok (.if_icmp .ne 7, 3) := by decide +kernel
theorem dX10_isCandidate_61 : decode cX10_isCandidate 61 = .ok (.iconst 1, 1) := by decide +kernel
theorem dX10_isCandidate_62 : decode cX10_isCandidate 62 = .ok (.goto 4, 3) := by decide +kernel
theorem dX10_isCandidate_65 : decode cX10_isCandidate 65 = .ok (.iconst 0, 1) := by decide +kernel
theorem dX10_isCandidate_66 : decode cX10_isCandidate 66 = .ok (.istore_n 2, 1) := by decide +kernel
theorem dX10_isCandidate_67 : decode cX10_isCandidate 67 = .ok (.iinc 4 1, 3) := by decide +kernel
theorem dX10_isCandidate_70 : decode cX10_isCandidate 70 = .ok (.goto (-53), 3) := by decide +kernel
theorem dX10_isCandidate_73 : decode cX10_isCandidate 73 = .ok (.iinc 3 1, 3) := by decide +kernel
theorem dX10_isCandidate_76 : decode cX10_isCandidate 76 = .ok (.goto (-72), 3) := by decide +kernel
theorem dX10_isCandidate_79 : decode cX10_isCandidate 79 = .ok (.iload_n 2, 1) := by decide +kernel
theorem dX10_isCandidate_80 : decode cX10_isCandidate 80 = .ok (.ireturn, 1) := by decide +kernel
theorem dX10_search_0 : decode cX10_search 0 = .ok (.aload_n 0, 1) := by decide +kernel
theorem dX10_search_1 : decode cX10_search 1 = .ok (.iconst 0, 1) := by decide +kernel
theorem dX10_search_2 : decode cX10_search 2 = .ok (.putfield 73, 3) := by decide +kernel
theorem dX10_search_5 : decode cX10_search 5 = .ok (.iload_n 1, 1) := by decide +kernel
theorem dX10_search_6 : decode cX10_search 6 = .ok (.iconst 3, 1) := by decide +kernel
theorem dX10_search_7 : decode cX10_search 7 = .ok (.invokestatic 92, 3) := by decide +kernel
theorem dX10_search_10 : decode cX10_search 10 = .ok (.ifCond .ne 43, 3) := by decide +kernel
theorem dX10_search_13 : decode cX10_search 13 = .ok (.iload_n 2, 1) := by decide +kernel
theorem dX10_search_14 : decode cX10_search 14 = .ok (.ifCond .eq 17, 3) := by decide +kernel
theorem dX10_search_17 : decode cX10_search 17 = .ok (.iload_n 2, 1) := by decide +kernel
theorem dX10_search_18 : decode cX10_search 18 = .ok (.iload_n 1, 1) := by decide +kernel
theorem dX10_search_19 : decode cX10_search 19 = .ok (.iconst 2, 1) := by decide +kernel
theorem dX10_search_20 : decode cX10_search 20 = .ok (.if_icmp .ne 7, 3) := by decide +kernel
theorem dX10_search_23 : decode cX10_search 23 = .ok (.iconst 2, 1) := by decide +kernel
theorem dX10_search_24 : decode cX10_search 24 = .ok (.goto 4, 3) := by decide +kernel
theorem dX10_search_27 : decode cX10_search 27 = .ok (.iconst 1, 1) := by decide +kernel
theorem dX10_search_28 : decode cX10_search 28 = .ok (.if_icmp .ne 25, 3) := by decide +kernel
theorem dX10_search_31 : decode cX10_search 31 = .ok (.iload_n 3, 1) := by decide +kernel
theorem dX10_search_32 : decode cX10_search 32 = .ok (.ifCond .lt 21, 3) := by decide +kernel
theorem dX10_search_35 : decode cX10_search 35 = .ok (.iload_n 3, 1) := by decide +kernel
theorem dX10_search_36 : decode cX10_search 36 = .ok (.bipush 20, 2) := by decide +kernel
theorem dX10_search_38 : decode cX10_search 38 = .ok (.if_icmp .gt 15, 3) := by decide +kernel
theorem dX10_search_41 : decode cX10_search 41 = .ok (.iload 4, 2) := by decide +kernel
theorem dX10_search_43 : decode cX10_search 43 = .ok (.iconst 1, 1) := by decide +kernel
theorem dX10_search_44 : decode cX10_search 44 = .ok (.if_icmp .lt 9, 3) := by decide +kernel
theorem dX10_search_47 : decode cX10_search 47 = .ok (.iload 4, 2) := by decide +kernel
theorem dX10_search_49 : decode cX10_search 49 = .ok (.iconst 3, 1) := by decide +kernel
theorem dX10_search_50 : decode cX10_search 50 = .ok (.if_icmp .le 9, 3) := by decide +kernel
theorem dX10_search_53 : decode cX10_search 53 = .ok (.aload_n 0, 1) := by decide +kernel
theorem dX10_search_54 : decode cX10_search 54 = .ok (.iconst 1, 1) := by decide +kernel
theorem dX10_search_55 : decode cX10_search 55 = .ok (.invokevirtual 217, 3) := by decide +kernel
theorem dX10_search_58 : decode cX10_search 58 = .ok (.ireturn, 1) := by decide +kernel
theorem dX10_search_59 : decode cX10_search 59 = .ok (.iload_n 2, 1) := by decide +kernel
theorem dX10_search_60 : decode cX10_search 60 = .ok (.iconst 2, 1) := by decide +kernel
theorem dX10_search_61 : decode cX10_search 61 = .ok (.if_icmp .ne 16, 3) := by decide +kernel
theorem dX10_search_64 : decode cX10_search 64 = .ok (.aload_n 0, 1) := by decide +kernel
theorem dX10_search_65 : decode cX10_search 65 = .ok (.getfield 104, 3) := by decide +kernel
theorem dX10_search_68 : decode cX10_search 68 = .ok (.ifCond .ne 9, 3) := by decide +kernel
theorem dX10_search_71 : decode cX10_search 71 = .ok (.aload_n 0, 1) := by decide +kernel
theorem dX10_search_72 : decode cX10_search 72 = .ok (.iconst 2, 1) := by decide +kernel
theorem dX10_search_73 : decode cX10_search 73 = .ok (.invokevirtual 217, 3) := by decide +kernel
theorem dX10_search_76 : decode cX10_search 76 = .ok (.ireturn, 1) := by decide +kernel
theorem dX10_search_77 : decode cX10_search 77 = .ok (.aload_n 0, 1) := by decide +kernel
theorem dX10_search_78 : decode cX10_search 78 = .ok (.iconst 0, 1) := by decide +kernel
theorem dX10_search_79 : decode cX10_search 79 = .ok (.putfield 180, 3) := by decide +kernel
theorem dX10_search_82 : decode cX10_search 82 = .ok (.aload_n 0, 1) := by decide +kernel
theorem dX10_search_83 : decode cX10_search 83 = .ok (.iconst 0, 1) := by decide +kernel
theorem dX10_search_84 : decode cX10_search 84 = .ok (.putfield 200, 3) := by decide +kernel
theorem dX10_search_87 : decode cX10_search 87 = .ok (.aload_n 0, 1) := by decide +kernel
theorem dX10_search_88 : decode cX10_search 88 = .ok (.iconst 0, 1) := by decide +kernel
theorem dX10_search_89 : decode cX10_search 89 = .ok (.putfield 206, 3) := by decide +kernel
theorem dX10_search_92 : decode cX10_search 92 = .ok (.aload_n 0, 1) := by decide +kernel
theorem dX10_search_93 : decode cX10_search 93 = .ok (.iconst 0, 1) := by decide +kernel
theorem dX10_search_94 : decode cX10_search 94 = .ok (.putfield 220, 3) := by decide +kernel
theorem dX10_search_97 : decode cX10_search 97 = .ok (.iconst 0, 1) := by decide +kernel
theorem dX10_search_98 : decode cX10_search 98 = .ok (.istore 5, 2) := by decide +kernel
theorem dX10_search_100 : decode cX10_search 100 = .ok (.iload 5, 2) := by decide +kernel
theorem dX10_search_102 : decode cX10_search 102 = .ok (.iload 4, 2) := by decide +kernel
theorem dX10_search_104 : decode cX10_search 104 = .ok (.if_icmp .ge 148, 3) := by decide +kernel
theorem dX10_search_107 : decode cX10_search 107 = .ok (.aload_n 0, 1) := by decide +kernel
theorem dX10_search_108 : decode cX10_search 108 = .ok (.iconst 0, 1) := by decide +kernel
theorem dX10_search_109 : decode cX10_search 109 = .ok (.putfield 177, 3) := by decide +kernel
theorem dX10_search_112 : decode cX10_search 112 = .ok (.iload_n 2, 1) := by decide +kernel
theorem dX10_search_113 : decode cX10_search 113 = .ok (.iconst 1, 1) := by decide +kernel
theorem dX10_search_114 : decode cX10_search 114 = .ok (.if_icmp .ne 13, 3) := by decide +kernel
theorem dX10_search_117 : decode cX10_search 117 = .ok (.aload_n 0, 1) := by decide +kernel
theorem dX10_search_118 : decode cX10_search 118 = .ok (.iload_n 1, 1) := by decide +kernel
theorem dX10_search_119 : decode cX10_search 119 = .ok (.iload 5, 2) := by decide +kernel
theorem dX10_search_121 : decode cX10_search 121 = .ok (.iload 4, 2) := by decide +kernel
theorem dX10_search_123 : decode cX10_search 123 = .ok (.iload_n 3, 1) := by decide +kernel
theorem dX10_search_124 : decode cX10_search 124 = .ok (.invokevirtual 223, 3) := by decide +kernel
theorem dX10_search_127 : decode cX10_search 127 = .ok (.iload 5, 2) := by decide +kernel
theorem dX10_search_129 : decode cX10_search 129 = .ok (.istore 6, 2) := by decide +kernel
theorem dX10_search_131 : decode cX10_search 131 = .ok (.iload 6, 2) := by decide +kernel
theorem dX10_search_133 : decode cX10_search 133 = .ok (.aload_n 0, 1) := by decide +kernel
theorem dX10_search_134 : decode cX10_search 134 = .ok (.getfield 86, 3) := by decide +kernel
theorem dX10_search_137 : decode cX10_search 137 = .ok (.if_icmp .ge 49, 3) := by decide +kernel
theorem dX10_search_140 : decode cX10_search 140 = .ok (.iload_n 2, 1) := by decide +kernel
theorem dX10_search_141 : decode cX10_search 141 = .ok (.iconst 1, 1) := by decide +kernel
theorem dX10_search_142 : decode cX10_search 142 = .ok (.if_icmp .eq 44, 3) := by decide +kernel
theorem dX10_search_145 : decode cX10_search 145 = .ok (.aload_n 0, 1) := by decide +kernel
theorem dX10_search_146 : decode cX10_search 146 = .ok (.iload_n 1, 1) := by decide +kernel
theorem dX10_search_147 : decode cX10_search 147 = .ok (.iload 6, 2) := by decide +kernel
theorem dX10_search_149 : decode cX10_search 149 = .ok (.invokevirtual 203, 3) := by decide +kernel
theorem dX10_search_152 : decode cX10_search 152 = .ok (.ifCond .eq 24, 3) := by decide +kernel
theorem dX10_search_155 : decode cX10_search 155 = .ok (.iload_n 2, 1) := by decide +kernel
theorem dX10_search_156 : decode cX10_search 156 = .ok (.ifCond .eq 12, 3) := by decide +kernel
theorem dX10_search_159 : decode cX10_search 159 = .ok (.aload_n 0, 1) := by decide +kernel
theorem dX10_search_160 : decode cX10_search 160 = .ok (.iload 6, 2) := by decide +kernel
theorem dX10_search_162 : decode cX10_search 162 = .ok (.invokevirtual 227, 3) := by decide +kernel
theorem dX10_search_165 : decode cX10_search 165 = .ok (.ifCond .eq 11, 3) := by decide +kernel
theorem dX10_search_168 : decode cX10_search 168 = .ok (.aload_n 0, 1) := by decide +kernel
theorem dX10_search_169 : decode cX10_search 169 = .ok (.iload_n 1, 1) := by decide +kernel
theorem dX10_search_170 : decode cX10_search 170 = .ok (.iload 6, 2) := by decide +kernel
theorem dX10_search_172 : decode cX10_search 172 = .ok (.iload_n 3, 1) := by decide +kernel
theorem dX10_search_173 : decode cX10_search 173 = .ok (.invokevirtual 209, 3) := by decide +kernel
theorem dX10_search_176 : decode cX10_search 176 = .ok (.iload 6, 2) := by decide +kernel
theorem dX10_search_178 : decode cX10_search 178 = .ok (.iload 4, 2) := by decide +kernel
theorem dX10_search_180 : decode cX10_search 180 = .ok (.iadd, 1) := by decide +kernel
theorem dX10_search_181 : decode cX10_search 181 = .ok (.istore 6, 2) := by decide +kernel
theorem dX10_search_183 : decode cX10_search 183 = .ok (.goto (-52), 3) := by decide +kernel
theorem dX10_search_186 : decode cX10_search 186 = .ok (.iconst 0, 1) := by decide +kernel
theorem dX10_search_187 : decode cX10_search 187 = .ok (.istore 6, 2) := by decide +kernel
theorem dX10_search_189 : decode cX10_search 189 = .ok (.iload 6, 2) := by decide +kernel
theorem dX10_search_191 : decode cX10_search 191 = .ok (.aload_n 0, 1) := by decide +kernel
theorem dX10_search_192 : decode cX10_search 192 = .ok (.getfield 177, 3) := by decide +kernel
theorem dX10_search_195 : decode cX10_search 195 = .ok (.if_icmp .ge 51, 3) := by decide +kernel
theorem dX10_search_198 : decode cX10_search 198 = .ok (.aload_n 0, 1) := by decide +kernel
theorem dX10_search_199 : decode cX10_search 199 = .ok (.getfield 61, 3) := by decide +kernel
theorem dX10_search_202 : decode cX10_search 202 = .ok (.aload_n 0, 1) := by decide +kernel
theorem dX10_search_203 : decode cX10_search 203 = .ok (.getfield 220, 3) := by decide +kernel
theorem dX10_search_206 : decode cX10_search 206 = .ok (.aload_n 0, 1) := by decide +kernel
theorem dX10_search_207 : decode cX10_search 207 = .ok (.getfield 55, 3) := by decide +kernel
theorem dX10_search_210 : decode cX10_search 210 = .ok (.iload 6, 2) := by decide +kernel
theorem dX10_search_212 : decode cX10_search 212 = .ok (.iaload, 1) := by decide +kernel
theorem dX10_search_213 : decode cX10_search 213 = .ok (.iastore, 1) := by decide +kernel
theorem dX10_search_214 : decode cX10_search 214 = .ok (.aload_n 0, 1) := by decide +kernel
theorem dX10_search_215 : decode cX10_search 215 = .ok (.getfield 64, 3) := by decide +kernel
theorem dX10_search_218 : decode cX10_search 218 = .ok (.aload_n 0, 1) := by decide +kernel
theorem dX10_search_219 : decode cX10_search 219 = .ok (.getfield 220, 3) := by decide +kernel
theorem dX10_search_222 : decode cX10_search 222 = .ok (.aload_n 0, 1) := by decide +kernel
theorem dX10_search_223 : decode cX10_search 223 = .ok (.getfield 58, 3) := by decide +kernel
theorem dX10_search_226 : decode cX10_search 226 = .ok (.iload 6, 2) := by decide +kernel
theorem dX10_search_228 : decode cX10_search 228 = .ok (.daload, 1) := by decide +kernel
theorem dX10_search_229 : decode cX10_search 229 = .ok (.dastore, 1) := by decide +kernel
theorem dX10_search_230 : decode cX10_search 230 = .ok (.aload_n 0, 1) := by decide +kernel
theorem dX10_search_231 : decode cX10_search 231 = .ok (.dup, 1) := by decide +kernel
theorem dX10_search_232 : decode cX10_search 232 = .ok (.getfield 220, 3) := by decide +kernel
theorem dX10_search_235 : decode cX10_search 235 = .ok (.iconst 1, 1) := by decide +kernel
theorem dX10_search_236 : decode cX10_search 236 = .ok (.iadd, 1) := by decide +kernel
theorem dX10_search_237 : decode cX10_search 237 = .ok (.putfield 220, 3) := by decide +kernel
theorem dX10_search_240 : decode cX10_search 240 = .ok (.iinc 6 1, 3) := by decide +kernel
theorem dX10_search_243 : decode cX10_search 243 = .ok (.goto (-54), 3) := by decide +kernel
theorem dX10_search_246 : decode cX10_search 246 = .ok (.iinc 5 1, 3) := by decide +kernel
theorem dX10_search_249 : decode cX10_search 249 = .ok (.goto (-149), 3) := by decide +kernel
theorem dX10_search_252 : decode cX10_search 252 = .ok (.aload_n 0, 1) := by decide +kernel
theorem dX10_search_253 : decode cX10_search 253 = .ok (.iconst 0, 1) := by decide +kernel
theorem dX10_search_254 : decode cX10_search 254 = .ok (.putfield 177, 3) := by decide +kernel
theorem dX10_search_257 : decode cX10_search 257 = .ok (.iconst 0, 1) := by decide +kernel
theorem dX10_search_258 : decode cX10_search 258 = .ok (.istore 5, 2) := by decide +kernel
theorem dX10_search_260 : decode cX10_search 260 = .ok (.iload 5, 2) := by decide +kernel
theorem dX10_search_262 : decode cX10_search 262 = .ok (.aload_n 0, 1) := by decide +kernel
theorem dX10_search_263 : decode cX10_search 263 = .ok (.getfield 220, 3) := by decide +kernel
theorem dX10_search_266 : decode cX10_search 266 = .ok (.if_icmp .ge 28, 3) := by decide +kernel
theorem dX10_search_269 : decode cX10_search 269 = .ok (.aload_n 0, 1) := by decide +kernel
theorem dX10_search_270 : decode cX10_search 270 = .ok (.aload_n 0, 1) := by decide +kernel
theorem dX10_search_271 : decode cX10_search 271 = .ok (.getfield 61, 3) := by decide +kernel
theorem dX10_search_274 : decode cX10_search 274 = .ok (.iload 5, 2) := by decide +kernel
theorem dX10_search_276 : decode cX10_search 276 = .ok (.iaload, 1) := by decide +kernel
theorem dX10_search_277 : decode cX10_search 277 = .ok (.aload_n 0, 1) := by decide +kernel
theorem dX10_search_278 : decode cX10_search 278 = .ok (.getfield 64, 3) := by decide +kernel
theorem dX10_search_281 : decode cX10_search 281 = .ok (.iload 5, 2) := by decide +kernel
theorem dX10_search_283 : decode cX10_search 283 = .ok (.daload, 1) := by decide +kernel
theorem dX10_search_284 : decode cX10_search 284 = .ok (.iload_n 3, 1) := by decide +kernel
theorem dX10_search_285 : decode cX10_search 285 = .ok (.invokevirtual 186, 3) := by decide +kernel
theorem dX10_search_288 : decode cX10_search 288 = .ok (.iinc 5 1, 3) := by decide +kernel
theorem dX10_search_291 : decode cX10_search 291 = .ok (.goto (-31), 3) := by decide +kernel
theorem dX10_search_294 : decode cX10_search 294 = .ok (.aload_n 0, 1) := by decide +kernel
theorem dX10_search_295 : decode cX10_search 295 = .ok (.iconst 0, 1) := by decide +kernel
theorem dX10_search_296 : decode cX10_search 296 = .ok (.putfield 79, 3) := by decide +kernel
theorem dX10_search_299 : decode cX10_search 299 = .ok (.aload_n 0, 1) := by decide +kernel
theorem dX10_search_300 : decode cX10_search 300 = .ok (.getfield 38, 3) := by decide +kernel
