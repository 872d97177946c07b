theorem dX0_init_0 : decode cX0_init 0 = .ok (.aload_n 0, 1) := by decide +kernel
theorem dX0_init_1 : decode cX0_init 1 = .ok (.invokespecial 3, 3) := by decide +kernel
theorem dX0_init_4 : decode cX0_init 4 = .ok (.aload_n 0, 1) := by decide +kernel
theorem dX0_init_5 : decode cX0_init 5 = .ok (.bipush 16, 2) := by decide +kernel
theorem dX0_init_7 : decode cX0_init 7 = .ok (.bipush 12, 2) := by decide +kernel
theorem dX0_init_9 : decode cX0_init 9 = .ok (.multianewarray 9 2, 4) := by decide +kernel
theorem dX0_init_13 : decode cX0_init 13 = .ok (.putfield 11, 3) := by decide +kernel
theorem dX0_init_16 : decode cX0_init 16 = .ok (.aload_n 0, 1) := by decide +kernel
theorem dX0_init_17 : decode cX0_init 17 = .ok (.bipush 16, 2) := by decide +kernel
theorem dX0_init_19 : decode cX0_init 19 = .ok (.newarray .int, 2) := by decide +kernel
theorem dX0_init_21 : decode cX0_init 21 = .ok (.putfield 16, 3) := by decide +kernel
theorem dX0_init_24 : decode cX0_init 24 = .ok (.aload_n 0, 1) := by decide +kernel
theorem dX0_init_25 : decode cX0_init 25 = .ok (.bipush 16, 2) := by decide +kernel
theorem dX0_init_27 : decode cX0_init 27 = .ok (.bipush 12, 2) := by decide +kernel
theorem dX0_init_29 : decode cX0_init 29 = .ok (.multianewarray 20 2, 4) := by decide +kernel
theorem dX0_init_33 : decode cX0_init 33 = .ok (.putfield 22, 3) := by decide +kernel
theorem dX0_init_36 : decode cX0_init 36 = .ok (.aload_n 0, 1) := by decide +kernel
theorem dX0_init_37 : decode cX0_init 37 = .ok (.bipush 16, 2) := by decide +kernel
theorem dX0_init_39 : decode cX0_init 39 = .ok (.anewarray 25, 3) := by decide +kernel
theorem dX0_init_42 : decode cX0_init 42 = .ok (.putfield 27, 3) := by decide +kernel
theorem dX0_init_45 : decode cX0_init 45 = .ok (.aload_n 0, 1) := by decide +kernel
theorem dX0_init_46 : decode cX0_init 46 = .ok (.new 25, 3) := by decide +kernel
theorem dX0_init_49 : decode cX0_init 49 = .ok (.dup, 1) := by decide +kernel
theorem dX0_init_50 : decode cX0_init 50 = .ok (.iconst 4, 1) := by decide +kernel
theorem dX0_init_51 : decode cX0_init 51 = .ok (.invokespecial 31, 3) := by decide +kernel
theorem dX0_init_54 : decode cX0_init 54 = .ok (.putfield 34, 3) := by decide +kernel
theorem dX0_init_57 : decode cX0_init 57 = .ok (.iconst 0, 1) := by decide +kernel
theorem dX0_init_58 : decode cX0_init 58 = .ok (.istore_n 1, 1) := by decide +kernel
theorem dX0_init_59 : decode cX0_init 59 = .ok (.iload_n 1, 1) := by decide +kernel
theorem dX0_init_60 : decode cX0_init 60 = .ok (.bipush 16, 2) := by decide +kernel
theorem dX0_init_62 : decode cX0_init 62 = .ok (.if_icmp .ge 23, 3) := by decide +kernel
theorem dX0_init_65 : decode cX0_init 65 = .ok (.aload_n 0, 1) := by decide +kernel
theorem dX0_init_66 : decode cX0_init 66 = .ok (.getfield 27, 3) := by decide +kernel
theorem dX0_init_69 : decode cX0_init 69 = .ok (.iload_n 1, 1) := by decide +kernel
theorem dX0_init_70 : decode cX0_init 70 = .ok (.new 25, 3) := by decide +kernel
theorem dX0_init_73 : decode cX0_init 73 = .ok (.dup, 1) := by decide +kernel
theorem dX0_init_74 : decode cX0_init 74 = .ok (.iconst 4, 1) := by decide +kernel
theorem dX0_init_75 : decode cX0_init 75 = .ok (.invokespecial 31, 3) := by decide +kernel
theorem dX0_init_78 : decode cX0_init 78 = .ok (.aastore, 1) := by decide +kernel
theorem dX0_init_79 : decode cX0_init 79 = .ok (.iinc 1 1, 3) := by decide +kernel
theorem dX0_init_82 : decode cX0_init 82 = .ok (.goto (-23), 3) := by decide +kernel
theorem dX0_init_85 : decode cX0_init 85 = .ok (.return_, 1) := by decide +kernel
theorem dX0_size_0 : decode cX0_size 0 = .ok (.aload_n 0, 1) := by decide +kernel
theorem dX0_size_1 : decode cX0_size 1 = .ok (.getfield 38, 3) := by decide +kernel
theorem dX0_size_4 : decode cX0_size 4 = .ok (.ireturn, 1) := by decide +kernel
theorem dX0_isFull_0 : decode cX0_isFull 0 = .ok (.aload_n 0, 1) := by decide +kernel
theorem dX0_isFull_1 : decode cX0_isFull 1 = .ok (.getfield 38, 3) := by decide +kernel
theorem dX0_isFull_4 : decode cX0_isFull 4 = .ok (.bipush 16, 2) := by decide +kernel
theorem dX0_isFull_6 : decode cX0_isFull 6 = .ok (.if_icmp .lt 7, 3) := by decide +kernel
theorem dX0_isFull_9 : decode cX0_isFull 9 = .ok (.iconst 1, 1) := by decide +kernel
theorem dX0_isFull_10 : decode cX0_isFull 10 = .ok (.goto 4, 3) := by decide +kernel
theorem dX0_isFull_13 : decode cX0_isFull 13 = .ok (.iconst 0, 1) := by decide +kernel
theorem dX0_isFull_14 : decode cX0_isFull 14 = .ok (.ireturn, 1) := by decide +kernel
theorem dX0_holds_0 : decode cX0_holds 0 = .ok (.iload_n 1, 1) := by decide +kernel
theorem dX0_holds_1 : decode cX0_holds 1 = .ok (.ifCond .lt 15, 3) := by decide +kernel
theorem dX0_holds_4 : decode cX0_holds 4 = .ok (.iload_n 1, 1) := by decide +kernel
theorem dX0_holds_5 : decode cX0_holds 5 = .ok (.aload_n 0, 1) := by decide +kernel
theorem dX0_holds_6 : decode cX0_holds 6 = .ok (.getfield 38, 3) := by decide +kernel
theorem dX0_holds_9 : decode cX0_holds 9 = .ok (.if_icmp .ge 7, 3) := by decide +kernel
theorem dX0_holds_12 : decode cX0_holds 12 = .ok (.iconst 1, 1) := by decide +kernel
theorem dX0_holds_13 : decode cX0_holds 13 = .ok (.goto 4, 3) := by decide +kernel
theorem dX0_holds_16 : decode cX0_holds 16 = .ok (.iconst 0, 1) := by decide +kernel
theorem dX0_holds_17 : decode cX0_holds 17 = .ok (.ireturn, 1) := by decide +kernel
theorem dX0_addDocument_0 : decode cX0_addDocument 0 = .ok (.aload_n 0, 1) := by decide +kernel
theorem dX0_addDocument_1 : decode cX0_addDocument 1 = .ok (.dup, 1) := by decide +kernel
theorem dX0_addDocument_2 : decode cX0_addDocument 2 = .ok (.getfield 38, 3) := by decide +kernel
theorem dX0_addDocument_5 : decode cX0_addDocument 5 = .ok (.iconst 1, 1) := by decide +kernel
theorem dX0_addDocument_6 : decode cX0_addDocument 6 = .ok (.iadd, 1) := by decide +kernel
theorem dX0_addDocument_7 : decode cX0_addDocument 7 = .ok (.putfield 38, 3) := by decide +kernel
theorem dX0_addDocument_10 : decode cX0_addDocument 10 = .ok (.aload_n 0, 1) := by decide +kernel
theorem dX0_addDocument_11 : decode cX0_addDocument 11 = .ok (.getfield 38, 3) := by decide +kernel
theorem dX0_addDocument_14 : decode cX0_addDocument 14 = .ok (.iconst 1, 1) := by decide +kernel
theorem dX0_addDocument_15 : decode cX0_addDocument 15 = .ok (.isub, 1) := by decide +kernel
theorem dX0_addDocument_16 : decode cX0_addDocument 16 = .ok (.ireturn, 1) := by decide +kernel
theorem dX0_countOf_0 : decode cX0_countOf 0 = .ok (.aload_n 0, 1) := by decide +kernel
theorem dX0_countOf_1 : decode cX0_countOf 1 = .ok (.getfield 11, 3) := by decide +kernel
theorem dX0_countOf_4 : decode cX0_countOf 4 = .ok (.iload_n 1, 1) := by decide +kernel
theorem dX0_countOf_5 : decode cX0_countOf 5 = .ok (.aaload, 1) := by decide +kernel
theorem dX0_countOf_6 : decode cX0_countOf 6 = .ok (.iload_n 2, 1) := by decide +kernel
theorem dX0_countOf_7 : decode cX0_countOf 7 = .ok (.iaload, 1) := by decide +kernel
theorem dX0_countOf_8 : decode cX0_countOf 8 = .ok (.ireturn, 1) := by decide +kernel
theorem dX0_lengthOf_0 : decode cX0_lengthOf 0 = .ok (.aload_n 0, 1) := by decide +kernel
theorem dX0_lengthOf_1 : decode cX0_lengthOf 1 = .ok (.getfield 16, 3) := by decide +kernel
theorem dX0_lengthOf_4 : decode cX0_lengthOf 4 = .ok (.iload_n 1, 1) := by decide +kernel
theorem dX0_lengthOf_5 : decode cX0_lengthOf 5 = .ok (.iaload, 1) := by decide +kernel
theorem dX0_lengthOf_6 : decode cX0_lengthOf 6 = .ok (.ireturn, 1) := by decide +kernel
theorem dX0_addCount_0 : decode cX0_addCount 0 = .ok (.aload_n 0, 1) := by decide +kernel
theorem dX0_addCount_1 : decode cX0_addCount 1 = .ok (.getfield 11, 3) := by decide +kernel
theorem dX0_addCount_4 : decode cX0_addCount 4 = .ok (.iload_n 1, 1) := by decide +kernel
theorem dX0_addCount_5 : decode cX0_addCount 5 = .ok (.aaload, 1) := by decide +kernel
theorem dX0_addCount_6 : decode cX0_addCount 6 = .ok (.iload_n 2, 1) := by decide +kernel
theorem dX0_addCount_7 : decode cX0_addCount 7 = .ok (.dup2, 1) := by decide +kernel
theorem dX0_addCount_8 : decode cX0_addCount 8 = .ok (.iaload, 1) := by decide +kernel
theorem dX0_addCount_9 : decode cX0_addCount 9 = .ok (.iconst 1, 1) := by decide +kernel
theorem dX0_addCount_10 : decode cX0_addCount 10 = .ok (.iadd, 1) := by decide +kernel
theorem dX0_addCount_11 : decode cX0_addCount 11 = .ok (.iastore, 1) := by decide +kernel
theorem dX0_addCount_12 : decode cX0_addCount 12 = .ok (.aload_n 0, 1) := by decide +kernel
theorem dX0_addCount_13 : decode cX0_addCount 13 = .ok (.getfield 16, 3) := by decide +kernel
theorem dX0_addCount_16 : decode cX0_addCount 16 = .ok (.iload_n 1, 1) := by decide +kernel
theorem dX0_addCount_17 : decode cX0_addCount 17 = .ok (.dup2, 1) := by decide +kernel
theorem dX0_addCount_18 : decode cX0_addCount 18 = .ok (.iaload, 1) := by decide +kernel
theorem dX0_addCount_19 : decode cX0_addCount 19 = .ok (.iconst 1, 1) := by decide +kernel
theorem dX0_addCount_20 : decode cX0_addCount 20 = .ok (.iadd, 1) := by decide +kernel
theorem dX0_addCount_21 : decode cX0_addCount 21 = .ok (.iastore, 1) := by decide +kernel
theorem dX0_addCount_22 : decode cX0_addCount 22 = .ok (.aload_n 0, 1) := by decide +kernel
theorem dX0_addCount_23 : decode cX0_addCount 23 = .ok (.getfield 11, 3) := by decide +kernel
theorem dX0_addCount_26 : decode cX0_addCount 26 = .ok (.iload_n 1, 1) := by decide +kernel
theorem dX0_addCount_27 : decode cX0_addCount 27 = .ok (.aaload, 1) := by decide +kernel
theorem dX0_addCount_28 : decode cX0_addCount 28 = .ok (.iload_n 2, 1) := by decide +kernel
theorem dX0_addCount_29 : decode cX0_addCount 29 = .ok (.iaload, 1) := by decide +kernel
theorem dX0_addCount_30 : decode cX0_addCount 30 = .ok (.ireturn, 1) := by decide +kernel
theorem dX0_setWeight_0 : decode cX0_setWeight 0 = .ok (.aload_n 0, 1) := by decide +kernel
theorem dX0_setWeight_1 : decode cX0_setWeight 1 = .ok (.getfield 22, 3) := by decide +kernel
theorem dX0_setWeight_4 : decode cX0_setWeight 4 = .ok (.iload_n 1, 1) := by decide +kernel
theorem dX0_setWeight_5 : decode cX0_setWeight 5 = .ok (.aaload, 1) := by decide +kernel
theorem dX0_setWeight_6 : decode cX0_setWeight 6 = .ok (.iload_n 2, 1) := by decide +kernel
theorem dX0_setWeight_7 : decode cX0_setWeight 7 = .ok (.fload_n 3, 1) := by decide +kernel
theorem dX0_setWeight_8 : decode cX0_setWeight 8 = .ok (.fastore, 1) := by decide +kernel
theorem dX0_setWeight_9 : decode cX0_setWeight 9 = .ok (.return_, 1) := by decide +kernel
theorem dX0_tokensOf_0 : decode cX0_tokensOf 0 = .ok (.aload_n 0, 1) := by decide +kernel
theorem dX0_tokensOf_1 : decode cX0_tokensOf 1 = .ok (.getfield 27, 3) := by decide +kernel
theorem dX0_tokensOf_4 : decode cX0_tokensOf 4 = .ok (.iload_n 1, 1) := by decide +kernel
theorem dX0_tokensOf_5 : decode cX0_tokensOf 5 = .ok (.aaload, 1) := by decide +kernel
theorem dX0_tokensOf_6 : decode cX0_tokensOf 6 = .ok (.areturn, 1) := by decide +kernel
theorem dX0_centroidRow_0 : decode cX0_centroidRow 0 = .ok (.aload_n 0, 1) := by decide +kernel
theorem dX0_centroidRow_1 : decode cX0_centroidRow 1 = .ok (.getfield 34, 3) := by decide +kernel
theorem dX0_centroidRow_4 : decode cX0_centroidRow 4 = .ok (.areturn, 1) := by decide +kernel
theorem dX0_documentsWith_0 : decode cX0_documentsWith 0 = .ok (.iconst 0, 1) := by decide +kernel
theorem dX0_documentsWith_1 : decode cX0_documentsWith 1 = .ok (.istore_n 2, 1) := by decide +kernel
theorem dX0_documentsWith_2 : decode cX0_documentsWith 2 = .ok (.iconst 0, 1) := by decide +kernel
theorem dX0_documentsWith_3 : decode cX0_documentsWith 3 = .ok (.istore_n 3, 1) := by decide +kernel
theorem dX0_documentsWith_4 : decode cX0_documentsWith 4 = .ok (.iload_n 3, 1) := by decide +kernel
theorem dX0_documentsWith_5 : decode cX0_documentsWith 5 = .ok (.aload_n 0, 1) := by decide +kernel
theorem dX0_documentsWith_6 : decode cX0_documentsWith 6 = .ok (.getfield 38, 3) := by decide +kernel
theorem dX0_documentsWith_9 : decode cX0_documentsWith 9 = .ok (.if_icmp .ge 23, 3) := by decide +kernel
theorem dX0_documentsWith_12 : decode cX0_documentsWith 12 = .ok (.aload_n 0, 1) := by decide +kernel
theorem dX0_documentsWith_13 : decode cX0_documentsWith 13 = .ok (.getfield 11, 3) := by decide +kernel
theorem dX0_documentsWith_16 : decode cX0_documentsWith 16 = .ok (.iload_n 3, 1) := by decide +kernel
theorem dX0_documentsWith_17 : decode cX0_documentsWith 17 = .ok (.aaload, 1) := by decide +kernel
theorem dX0_documentsWith_18 : decode cX0_documentsWith 18 = .ok (.iload_n 1, 1) := by decide +kernel
theorem dX0_documentsWith_19 : decode cX0_documentsWith 19 = .ok (.iaload, 1) := by decide +kernel
theorem dX0_documentsWith_20 : decode cX0_documentsWith 20 = .ok (.ifCond .le 6, 3) := by decide +kernel
theorem dX0_documentsWith_23 : decode cX0_documentsWith 23 = .ok (.iinc 2 1, 3) := by decide +kernel
theorem dX0_documentsWith_26 : decode cX0_documentsWith 26 = .ok (.iinc 3 1, 3) := by decide +kernel
theorem dX0_documentsWith_29 : decode cX0_documentsWith 29 = .ok (.goto (-25), 3) := by decide +kernel
theorem dX0_documentsWith_32 : decode cX0_documentsWith 32 = .ok (.iload_n 2, 1) := by decide +kernel
theorem dX0_documentsWith_33 : decode cX0_documentsWith 33 = .ok (.ireturn, 1) := by decide +kernel
theorem dX0_averageLength_0 : decode cX0_averageLength 0 = .ok (.iconst 0, 1) := by decide +kernel
theorem dX0_averageLength_1 : decode cX0_averageLength 1 = .ok (.istore_n 1, 1) := by decide +kernel
theorem dX0_averageLength_2 : decode cX0_averageLength 2 = .ok (.iconst 0, 1) := by decide +kernel
theorem dX0_averageLength_3 : decode cX0_averageLength 3 = .ok (.istore_n 2, 1) := by decide +kernel
theorem dX0_averageLength_4 : decode cX0_averageLength 4 = .ok (.iload_n 2, 1) := by decide +kernel
theorem dX0_averageLength_5 : decode cX0_averageLength 5 = .ok (.aload_n 0, 1) := by decide +kernel
theorem dX0_averageLength_6 : decode cX0_averageLength 6 = .ok (.getfield 38, 3) := by decide +kernel
theorem dX0_averageLength_9 : decode cX0_averageLength 9 = .ok (.if_icmp .ge 18, 3) := by decide +kernel
theorem dX0_averageLength_12 : decode cX0_averageLength 12 = .ok (.iload_n 1, 1) := by decide +kernel
theorem dX0_averageLength_13 : decode cX0_averageLength 13 = .ok (.aload_n 0, 1) := by decide +kernel
theorem dX0_averageLength_14 : decode cX0_averageLength 14 = .ok (.getfield 16, 3) := by decide +kernel
theorem dX0_averageLength_17 : decode cX0_averageLength 17 = .ok (.iload_n 2, 1) := by decide +kernel
theorem dX0_averageLength_18 : decode cX0_averageLength 18 = .ok (.iaload, 1) := by decide +kernel
theorem dX0_averageLength_19 : decode cX0_averageLength 19 = .ok (.iadd, 1) := by decide +kernel
theorem dX0_averageLength_20 : decode cX0_averageLength 20 = .ok (.istore_n 1, 1) := by decide +kernel
theorem dX0_averageLength_21 : decode cX0_averageLength 21 = .ok (.iinc 2 1, 3) := by decide +kernel
theorem dX0_averageLength_24 : decode cX0_averageLength 24 = .ok (.goto (-20), 3) := by decide +kernel
theorem dX0_averageLength_27 : decode cX0_averageLength 27 = .ok (.aload_n 0, 1) := by decide +kernel
theorem dX0_averageLength_28 : decode cX0_averageLength 28 = .ok (.getfield 38, 3) := by decide +kernel
theorem dX0_averageLength_31 : decode cX0_averageLength 31 = .ok (.ifCond .ne 7, 3) := by decide +kernel
theorem dX0_averageLength_34 : decode cX0_averageLength 34 = .ok (.dconst 0, 1) := by decide +kernel
theorem dX0_averageLength_35 : decode cX0_averageLength 35 = .ok (.goto 11, 3) := by decide +kernel
theorem dX0_averageLength_38 : decode cX0_averageLength 38 = .ok (.iload_n 1, 1) := by decide +kernel
theorem dX0_averageLength_39 : decode cX0_averageLength 39 = .ok (.i2d, 1) := by decide +kernel
theorem dX0_averageLength_40 : decode cX0_averageLength 40 = .ok (.aload_n 0, 1) := by decide +kernel
theorem dX0_averageLength_41 : decode cX0_averageLength 41 = .ok (.getfield 38, 3) := by decide +kernel
theorem dX0_averageLength_44 : decode cX0_averageLength 44 = .ok (.i2d, 1) := by decide +kernel
theorem dX0_averageLength_45 : decode cX0_averageLength 45 = .ok (.ddiv, 1) := by decide +kernel
theorem dX0_averageLength_46 : decode cX0_averageLength 46 = .ok (.dreturn, 1) := by decide +kernel
theorem dX0_greatestWeight_0 : decode cX0_greatestWeight 0 = .ok (.fconst 0, 1) := by decide +kernel
theorem dX0_greatestWeight_1 : decode cX0_greatestWeight 1 = .ok (.fstore_n 1, 1) := by decide +kernel
theorem dX0_greatestWeight_2 : decode cX0_greatestWeight 2 = .ok (.iconst 0, 1) := by decide +kernel
theorem dX0_greatestWeight_3 : decode cX0_greatestWeight 3 = .ok (.istore_n 2, 1) := by decide +kernel
theorem dX0_greatestWeight_4 : decode cX0_greatestWeight 4 = .ok (.iload_n 2, 1) := by decide +kernel
theorem dX0_greatestWeight_5 : decode cX0_greatestWeight 5 = .ok (.aload_n 0, 1) := by decide +kernel
theorem dX0_greatestWeight_6 : decode cX0_greatestWeight 6 = .ok (.getfield 38, 3) := by decide +kernel
theorem dX0_greatestWeight_9 : decode cX0_greatestWeight 9 = .ok (.if_icmp .ge 36, 3) := by decide +kernel
theorem dX0_greatestWeight_12 : decode cX0_greatestWeight 12 = .ok (.iconst 0, 1) := by decide +kernel
theorem dX0_greatestWeight_13 : decode cX0_greatestWeight 13 = .ok (.istore_n 3, 1) := by decide +kernel
theorem dX0_greatestWeight_14 : decode cX0_greatestWeight 14 = .ok (.iload_n 3, 1) := by decide +kernel
theorem dX0_greatestWeight_15 : decode cX0_greatestWeight 15 = .ok (.bipush 12, 2) := by decide +kernel
theorem dX0_greatestWeight_17 : decode cX0_greatestWeight 17 = .ok (.if_icmp .ge 22, 3) := by decide +kernel
theorem dX0_greatestWeight_20 : decode cX0_greatestWeight 20 = .ok (.fload_n 1, 1) := by decide +kernel
theorem dX0_greatestWeight_21 : decode cX0_greatestWeight 21 = .ok (.aload_n 0, 1) := by decide +kernel
theorem dX0_greatestWeight_22 : decode cX0_greatestWeight 22 = .ok (.getfield 22, 3) := by decide +kernel
theorem dX0_greatestWeight_25 : decode cX0_greatestWeight 25 = .ok (.iload_n 2, 1) := by decide +kernel
theorem dX0_greatestWeight_26 : decode cX0_greatestWeight 26 = .ok (.aaload, 1) := by decide +kernel
theorem dX0_greatestWeight_27 : decode cX0_greatestWeight 27 = .ok (.iload_n 3, 1) := by decide +kernel
theorem dX0_greatestWeight_28 : decode cX0_greatestWeight 28 = .ok (.faload, 1) := by decide +kernel
theorem dX0_greatestWeight_29 : decode cX0_greatestWeight 29 = .ok (.invokestatic 42, 3) := by decide +kernel
theorem dX0_greatestWeight_32 : decode cX0_greatestWeight 32 = .ok (.fstore_n 1, 1) := by decide +kernel
theorem dX0_greatestWeight_33 : decode cX0_greatestWeight 33 = .ok (.iinc 3 1, 3) := by decide +kernel
theorem dX0_greatestWeight_36 : decode cX0_greatestWeight 36 = .ok (.goto (-22), 3) := by decide +kernel
theorem dX0_greatestWeight_39 : decode cX0_greatestWeight 39 = .ok (.iinc 2 1, 3) := by decide +kernel
theorem dX0_greatestWeight_42 : decode cX0_greatestWeight 42 = .ok (.goto (-38), 3) := by decide +kernel
theorem dX0_greatestWeight_45 : decode cX0_greatestWeight 45 = .ok (.fload_n 1, 1) := by decide +kernel
theorem dX0_greatestWeight_46 : decode cX0_greatestWeight 46 = .ok (.freturn, 1) := by decide +kernel
theorem dX0_impactOf_0 : decode cX0_impactOf 0 = .ok (.aload_n 0, 1) := by decide +kernel
theorem dX0_impactOf_1 : decode cX0_impactOf 1 = .ok (.getfield 22, 3) := by decide +kernel
theorem dX0_impactOf_4 : decode cX0_impactOf 4 = .ok (.iload_n 1, 1) := by decide +kernel
theorem dX0_impactOf_5 : decode cX0_impactOf 5 = .ok (.aaload, 1) := by decide +kernel
theorem dX0_impactOf_6 : decode cX0_impactOf 6 = .ok (.iload_n 2, 1) := by decide +kernel
theorem dX0_impactOf_7 : decode cX0_impactOf 7 = .ok (.faload, 1) := by decide +kernel
theorem dX0_impactOf_8 : decode cX0_impactOf 8 = .ok (.fstore 4, 2) := by decide +kernel
theorem dX0_impactOf_10 : decode cX0_impactOf 10 = .ok (.fload 4, 2) := by decide +kernel
theorem dX0_impactOf_12 : decode cX0_impactOf 12 = .ok (.fconst 0, 1) := by decide +kernel
theorem dX0_impactOf_13 : decode cX0_impactOf 13 = .ok (.fcmp .l, 1) := by decide +kernel
theorem dX0_impactOf_14 : decode cX0_impactOf 14 = .ok (.ifCond .le 9, 3) := by decide +kernel
theorem dX0_impactOf_17 : decode cX0_impactOf 17 = .ok (.fload_n 3, 1) := by decide +kernel
theorem dX0_impactOf_18 : decode cX0_impactOf 18 = .ok (.fconst 0, 1) := by decide +kernel
theorem dX0_impactOf_19 : decode cX0_impactOf 19 = .ok (.fcmp .l, 1) := by decide +kernel
theorem dX0_impactOf_20 : decode cX0_impactOf 20 = .ok (.ifCond .gt 5, 3) := by decide +kernel
theorem dX0_impactOf_23 : decode cX0_impactOf 23 = .ok (.iconst 0, 1) := by decide +kernel
theorem dX0_impactOf_24 : decode cX0_impactOf 24 = .ok (.ireturn, 1) := by decide +kernel
theorem dX0_impactOf_25 : decode cX0_impactOf 25 = .ok (.fload 4, 2) := by decide +kernel
theorem dX0_impactOf_27 : decode cX0_impactOf 27 = .ok (.fload_n 3, 1) := by decide +kernel
theorem dX0_impactOf_28 : decode cX0_impactOf 28 = .ok (.fdiv, 1) := by decide +kernel
theorem dX0_impactOf_29 : decode cX0_impactOf 29 = .ok (.ldc 46, 2) := by decide +kernel
theorem dX0_impactOf_31 : decode cX0_impactOf 31 = .ok (.fmul, 1) := by decide +kernel
theorem dX0_impactOf_32 : decode cX0_impactOf 32 = .ok (.ldc 47, 2) := by decide +kernel
theorem dX0_impactOf_34 : decode cX0_impactOf 34 = .ok (.fadd, 1) := by decide +kernel
theorem dX0_impactOf_35 : decode cX0_impactOf 35 = .ok (.f2i, 1) := by decide +kernel
theorem dX0_impactOf_36 : decode cX0_impactOf 36 = .ok (.ireturn, 1) := by decide +kernel
theorem dX1_init_0 : decode cX1_init 0 = .ok (.aload_n 0, 1) := by decide +kernel
theorem dX1_init_1 : decode cX1_init 1 = .ok (.invokespecial 3, 3) := by decide +kernel
theorem dX1_init_4 : decode cX1_init 4 = .ok (.aload_n 0, 1) := by decide +kernel
theorem dX1_init_5 : decode cX1_init 5 = .ok (.new 9, 3) := by decide +kernel
theorem dX1_init_8 : decode cX1_init 8 = .ok (.dup, 1) := by decide +kernel
theorem dX1_init_9 : decode cX1_init 9 = .ok (.invokespecial 11, 3) := by decide +kernel
theorem dX1_init_12 : decode cX1_init 12 = .ok (.putfield 12, 3) := by decide +kernel
theorem dX1_init_15 : decode cX1_init 15 = .ok (.aload_n 0, 1) := by decide +kernel
theorem dX1_init_16 : decode cX1_init 16 = .ok (.bipush 16, 2) := by decide +kernel
theorem dX1_init_18 : decode cX1_init 18 = .ok (.newarray .double, 2) := by decide +kernel
theorem dX1_init_20 : decode cX1_init 20 = .ok (.putfield 18, 3) := by decide +kernel
theorem dX1_init_23 : decode cX1_init 23 = .ok (.aload_n 0, 1) := by decide +kernel
theorem dX1_init_24 : decode cX1_init 24 = .ok (.bipush 16, 2) := by decide +kernel
theorem dX1_init_26 : decode cX1_init 26 = .ok (.newarray .int, 2) := by decide +kernel
theorem dX1_init_28 : decode cX1_init 28 = .ok (.putfield 22, 3) := by decide +kernel
theorem dX1_init_31 : decode cX1_init 31 = .ok (.return_, 1) := by decide +kernel
theorem dX1_ranking_0 : decode cX1_ranking 0 = .ok (.aload_n 0, 1) := by decide +kernel
theorem dX1_ranking_1 : decode cX1_ranking 1 = .ok (.getfield 12, 3) := by decide +kernel
theorem dX1_ranking_4 : decode cX1_ranking 4 = .ok (.areturn, 1) := by decide +kernel
theorem dX1_forget_0 : decode cX1_forget 0 = .ok (.aload_n 0, 1) := by decide +kernel
theorem dX1_forget_1 : decode cX1_forget 1 = .ok (.getfield 12, 3) := by decide +kernel
theorem dX1_forget_4 : decode cX1_forget 4 = .ok (.iconst 0, 1) := by decide +kernel
theorem dX1_forget_5 : decode cX1_forget 5 = .ok (.invokevirtual 26, 3) := by decide +kernel
theorem dX1_forget_8 : decode cX1_forget 8 = .ok (.return_, 1) := by decide +kernel
theorem dX1_make_0 : decode cX1_make 0 = .ok (.iconst 0, 1) := by decide +kernel
theorem dX1_make_1 : decode cX1_make 1 = .ok (.istore_n 3, 1) := by decide +kernel
theorem dX1_make_2 : decode cX1_make 2 = .ok (.iload_n 3, 1) := by decide +kernel
theorem dX1_make_3 : decode cX1_make 3 = .ok (.bipush 16, 2) := by decide +kernel
theorem dX1_make_5 : decode cX1_make 5 = .ok (.if_icmp .ge 23, 3) := by decide +kernel
theorem dX1_make_8 : decode cX1_make 8 = .ok (.aload_n 0, 1) := by decide +kernel
theorem dX1_make_9 : decode cX1_make 9 = .ok (.getfield 18, 3) := by decide +kernel
theorem dX1_make_12 : decode cX1_make 12 = .ok (.iload_n 3, 1) := by decide +kernel
theorem dX1_make_13 : decode cX1_make 13 = .ok (.dconst 0, 1) := by decide +kernel
theorem dX1_make_14 : decode cX1_make 14 = .ok (.dastore, 1) := by decide +kernel
theorem dX1_make_15 : decode cX1_make 15 = .ok (.aload_n 0, 1) := by decide +kernel
theorem dX1_make_16 : decode cX1_make 16 = .ok (.getfield 22, 3) := by decide +kernel
theorem dX1_make_19 : decode cX1_make 19 = .ok (.iload_n 3, 1) := by decide +kernel
theorem dX1_make_20 : decode cX1_make 20 = .ok (.iconst 0, 1) := by decide +kernel
theorem dX1_make_21 : decode cX1_make 21 = .ok (.iastore, 1) := by decide +kernel
theorem dX1_make_22 : decode cX1_make 22 = .ok (.iinc 3 1, 3) := by decide +kernel
theorem dX1_make_25 : decode cX1_make 25 = .ok (.goto (-23), 3) := by decide +kernel
theorem dX1_make_28 : decode cX1_make 28 = .ok (.iconst 0, 1) := by decide +kernel
theorem dX1_make_29 : decode cX1_make 29 = .ok (.istore_n 3, 1) := by decide +kernel
theorem dX1_make_30 : decode cX1_make 30 = .ok (.iload_n 3, 1) := by decide +kernel
theorem dX1_make_31 : decode cX1_make 31 = .ok (.aload_n 1, 1) := by decide +kernel
theorem dX1_make_32 : decode cX1_make 32 = .ok (.arraylength, 1) := by decide +kernel
theorem dX1_make_33 : decode cX1_make 33 = .ok (.if_icmp .ge 29, 3) := by decide +kernel
theorem dX1_make_36 : decode cX1_make 36 = .ok (.aload_n 1, 1) := by decide +kernel
theorem dX1_make_37 : decode cX1_make 37 = .ok (.iload_n 3, 1) := by decide +kernel
theorem dX1_make_38 : decode cX1_make 38 = .ok (.aaload, 1) := by decide +kernel
theorem dX1_make_39 : decode cX1_make 39 = .ok (.invokevirtual 30, 3) := by decide +kernel
theorem dX1_make_42 : decode cX1_make 42 = .ok (.ifCond .eq 14, 3) := by decide +kernel
theorem dX1_make_45 : decode cX1_make 45 = .ok (.aload_n 0, 1) := by decide +kernel
theorem dX1_make_46 : decode cX1_make 46 = .ok (.aload_n 1, 1) := by decide +kernel
theorem dX1_make_47 : decode cX1_make 47 = .ok (.iload_n 3, 1) := by decide +kernel
theorem dX1_make_48 : decode cX1_make 48 = .ok (.aaload, 1) := by decide +kernel
theorem dX1_make_49 : decode cX1_make 49 = .ok (.invokevirtual 36, 3) := by decide +kernel
theorem dX1_make_52 : decode cX1_make 52 = .ok (.iload_n 2, 1) := by decide +kernel
theorem dX1_make_53 : decode cX1_make 53 = .ok (.invokevirtual 39, 3) := by decide +kernel
theorem dX1_make_56 : decode cX1_make 56 = .ok (.iinc 3 1, 3) := by decide +kernel
theorem dX1_make_59 : decode cX1_make 59 = .ok (.goto (-29), 3) := by decide +kernel
theorem dX1_make_62 : decode cX1_make 62 = .ok (.aload_n 0, 1) := by decide +kernel
theorem dX1_make_63 : decode cX1_make 63 = .ok (.getfield 12, 3) := by decide +kernel
theorem dX1_make_66 : decode cX1_make 66 = .ok (.bipush 16, 2) := by decide +kernel
theorem dX1_make_68 : decode cX1_make 68 = .ok (.invokevirtual 26, 3) := by decide +kernel
theorem dX1_make_71 : decode cX1_make 71 = .ok (.iconst 0, 1) := by decide +kernel
theorem dX1_make_72 : decode cX1_make 72 = .ok (.istore_n 3, 1) := by decide +kernel
theorem dX1_make_73 : decode cX1_make 73 = .ok (.iload_n 3, 1) := by decide +kernel
theorem dX1_make_74 : decode cX1_make 74 = .ok (.bipush 16, 2) := by decide +kernel
theorem dX1_make_76 : decode cX1_make 76 = .ok (.if_icmp .ge 54, 3) := by decide +kernel
theorem dX1_make_79 : decode cX1_make 79 = .ok (.aload_n 0, 1) := by decide +kernel
theorem dX1_make_80 : decode cX1_make 80 = .ok (.getfield 22, 3) := by decide +kernel
theorem dX1_make_83 : decode cX1_make 83 = .ok (.iload_n 3, 1) := by decide +kernel
theorem dX1_make_84 : decode cX1_make 84 = .ok (.iaload, 1) := by decide +kernel
theorem dX1_make_85 : decode cX1_make 85 = .ok (.ifCond .le 39, 3) := by decide +kernel
theorem dX1_make_88 : decode cX1_make 88 = .ok (.aload_n 0, 1) := by decide +kernel
theorem dX1_make_89 : decode cX1_make 89 = .ok (.getfield 12, 3) := by decide +kernel
theorem dX1_make_92 : decode cX1_make 92 = .ok (.iload_n 3, 1) := by decide +kernel
theorem dX1_make_93 : decode cX1_make 93 = .ok (.iload_n 2, 1) := by decide +kernel
theorem dX1_make_94 : decode cX1_make 94 = .ok (.iconst 2, 1) := by decide +kernel
theorem dX1_make_95 : decode cX1_make 95 = .ok (.if_icmp .ne 20, 3) := by decide +kernel
theorem dX1_make_98 : decode cX1_make 98 = .ok (.aload_n 0, 1) := by decide +kernel
theorem dX1_make_99 : decode cX1_make 99 = .ok (.getfield 18, 3) := by decide +kernel
theorem dX1_make_102 : decode cX1_make 102 = .ok (.iload_n 3, 1) := by decide +kernel
theorem dX1_make_103 : decode cX1_make 103 = .ok (.daload, 1) := by decide +kernel
theorem dX1_make_104 : decode cX1_make 104 = .ok (.aload_n 0, 1) := by decide +kernel
theorem dX1_make_105 : decode cX1_make 105 = .ok (.getfield 22, 3) := by decide +kernel
theorem dX1_make_108 : decode cX1_make 108 = .ok (.iload_n 3, 1) := by decide +kernel
theorem dX1_make_109 : decode cX1_make 109 = .ok (.iaload, 1) := by decide +kernel
theorem dX1_make_110 : decode cX1_make 110 = .ok (.i2d, 1) := by decide +kernel
theorem dX1_make_111 : decode cX1_make 111 = .ok (.dmul, 1) := by decide +kernel
theorem dX1_make_112 : decode cX1_make 112 = .ok (.goto 9, 3) := by decide +kernel
theorem dX1_make_115 : decode cX1_make 115 = .ok (.aload_n 0, 1) := by decide +kernel
theorem dX1_make_116 : decode cX1_make 116 = .ok (.getfield 18, 3) := by decide +kernel
theorem dX1_make_119 : decode cX1_make 119 = .ok (.iload_n 3, 1) := by decide +kernel
theorem dX1_make_120 : decode cX1_make 120 = .ok (.daload, 1) := by decide +kernel
theorem dX1_make_121 : decode cX1_make 121 = .ok (.invokevirtual 43, 3) := by decide +kernel
theorem dX1_make_124 : decode cX1_make 124 = .ok (.iinc 3 1, 3) := by decide +kernel
theorem dX1_make_127 : decode cX1_make 127 = .ok (.goto (-54), 3) := by decide +kernel
theorem dX1_make_130 : decode cX1_make 130 = .ok (.aload_n 0, 1) := by decide +kernel
theorem dX1_make_131 : decode cX1_make 131 = .ok (.getfield 12, 3) := by decide +kernel
theorem dX1_make_134 : decode cX1_make 134 = .ok (.invokevirtual 47, 3) := by decide +kernel
theorem dX1_make_137 : decode cX1_make 137 = .ok (.ireturn, 1) := by decide +kernel
theorem dX1_addList_0 : decode cX1_addList 0 = .ok (.iconst 0, 1) := by decide +kernel
theorem dX1_addList_1 : decode cX1_addList 1 = .ok (.istore_n 3, 1) := by decide +kernel
theorem dX1_addList_2 : decode cX1_addList 2 = .ok (.iload_n 3, 1) := by decide +kernel
theorem dX1_addList_3 : decode cX1_addList 3 = .ok (.aload_n 1, 1) := by decide +kernel
theorem dX1_addList_4 : decode cX1_addList 4 = .ok (.invokevirtual 47, 3) := by decide +kernel
theorem dX1_addList_7 : decode cX1_addList 7 = .ok (.if_icmp .ge 63, 3) := by decide +kernel
theorem dX1_addList_10 : decode cX1_addList 10 = .ok (.aload_n 1, 1) := by decide +kernel
theorem dX1_addList_11 : decode cX1_addList 11 = .ok (.iload_n 3, 1) := by decide +kernel
theorem dX1_addList_12 : decode cX1_addList 12 = .ok (.invokevirtual 51, 3) := by decide +kernel
theorem dX1_addList_15 : decode cX1_addList 15 = .ok (.istore 4, 2) := by decide +kernel
theorem dX1_addList_17 : decode cX1_addList 17 = .ok (.aload_n 0, 1) := by decide +kernel
theorem dX1_addList_18 : decode cX1_addList 18 = .ok (.getfield 18, 3) := by decide +kernel
theorem dX1_addList_21 : decode cX1_addList 21 = .ok (.iload 4, 2) := by decide +kernel
theorem dX1_addList_23 : decode cX1_addList 23 = .ok (.aload_n 0, 1) := by decide +kernel
theorem dX1_addList_24 : decode cX1_addList 24 = .ok (.getfield 18, 3) := by decide +kernel
theorem dX1_addList_27 : decode cX1_addList 27 = .ok (.iload 4, 2) := by decide +kernel
theorem dX1_addList_29 : decode cX1_addList 29 = .ok (.daload, 1) := by decide +kernel
theorem dX1_addList_30 : decode cX1_addList 30 = .ok (.iload_n 2, 1) := by decide +kernel
theorem dX1_addList_31 : decode cX1_addList 31 = .ok (.ifCond .ne 15, 3) := by decide +kernel
theorem dX1_addList_34 : decode cX1_addList 34 = .ok (.dconst 1, 1) := by decide +kernel
theorem dX1_addList_35 : decode cX1_addList 35 = .ok (.bipush 60, 2) := by decide +kernel
theorem dX1_addList_37 : decode cX1_addList 37 = .ok (.iload_n 3, 1) := by decide +kernel
theorem dX1_addList_38 : decode cX1_addList 38 = .ok (.iconst 1, 1) := by decide +kernel
theorem dX1_addList_39 : decode cX1_addList 39 = .ok (.iadd, 1) := by decide +kernel
theorem dX1_addList_40 : decode cX1_addList 40 = .ok (.iadd, 1) := by decide +kernel
theorem dX1_addList_41 : decode cX1_addList 41 = .ok (.i2d, 1) := by decide +kernel
theorem dX1_addList_42 : decode cX1_addList 42 = .ok (.ddiv, 1) := by decide +kernel
theorem dX1_addList_43 : decode cX1_addList 43 = .ok (.goto 8, 3) := by decide +kernel
theorem dX1_addList_46 : decode cX1_addList 46 = .ok (.aload_n 1, 1) := by decide +kernel
theorem dX1_addList_47 : decode cX1_addList 47 = .ok (.iload_n 3, 1) := by decide +kernel
theorem dX1_addList_48 : decode cX1_addList 48 = .ok (.invokestatic 55, 3) := by decide +kernel
theorem dX1_addList_51 : decode cX1_addList 51 = .ok (.dadd, 1) := by decide +kernel
theorem dX1_addList_52 : decode cX1_addList 52 = .ok (.dastore, 1) := by decide +kernel
theorem dX1_addList_53 : decode cX1_addList 53 = .ok (.aload_n 0, 1) := by decide +kernel
theorem dX1_addList_54 : decode cX1_addList 54 = .ok (.getfield 22, 3) := by decide +kernel
theorem dX1_addList_57 : decode cX1_addList 57 = .ok (.iload 4, 2) := by decide +kernel
theorem dX1_addList_59 : decode cX1_addList 59 = .ok (.dup2, 1) := by decide +kernel
theorem dX1_addList_60 : decode cX1_addList 60 = .ok (.iaload, 1) := by decide +kernel
theorem dX1_addList_61 : decode cX1_addList 61 = .ok (.iconst 1, 1) := by decide +kernel
theorem dX1_addList_62 : decode cX1_addList 62 = .ok (.iadd, 1) := by decide +kernel
theorem dX1_addList_63 : decode cX1_addList 63 = .ok (.iastore, 1) := by decide +kernel
theorem dX1_addList_64 : decode cX1_addList 64 = .ok (.iinc 3 1, 3) := by decide +kernel
theorem dX1_addList_67 : decode cX1_addList 67 = .ok (.goto (-65), 3) := by decide +kernel
theorem dX1_addList_70 : decode cX1_addList 70 = .ok (.return_, 1) := by decide +kernel
theorem dX1_shareAt_0 : decode cX1_shareAt 0 = .ok (.aload_n 0, 1) := by decide +kernel
theorem dX1_shareAt_1 : decode cX1_shareAt 1 = .ok (.iconst 0, 1) := by decide +kernel
theorem dX1_shareAt_2 : decode cX1_shareAt 2 = .ok (.invokevirtual 59, 3) := by decide +kernel
theorem dX1_shareAt_5 : decode cX1_shareAt 5 = .ok (.dstore_n 2, 1) := by decide +kernel
theorem dX1_shareAt_6 : decode cX1_shareAt 6 = .ok (.aload_n 0, 1) := by decide +kernel
theorem dX1_shareAt_7 : decode cX1_shareAt 7 = .ok (.aload_n 0, 1) := by decide +kernel
theorem dX1_shareAt_8 : decode cX1_shareAt 8 = .ok (.invokevirtual 47, 3) := by decide +kernel
theorem dX1_shareAt_11 : decode cX1_shareAt 11 = .ok (.iconst 1, 1) := by decide +kernel
theorem dX1_shareAt_12 : decode cX1_shareAt 12 = .ok (.isub, 1) := by decide +kernel
theorem dX1_shareAt_13 : decode cX1_shareAt 13 = .ok (.invokevirtual 59, 3) := by decide +kernel
theorem dX1_shareAt_16 : decode cX1_shareAt 16 = .ok (.dstore 4, 2) := by decide +kernel
theorem dX1_shareAt_18 : decode cX1_shareAt 18 = .ok (.dload_n 2, 1) := by decide +kernel
theorem dX1_shareAt_19 : decode cX1_shareAt 19 = .ok (.dload 4, 2) := by decide +kernel
theorem dX1_shareAt_21 : decode cX1_shareAt 21 = .ok (.dcmp .l, 1) := by decide +kernel
theorem dX1_shareAt_22 : decode cX1_shareAt 22 = .ok (.ifCond .gt 5, 3) := by decide +kernel
theorem dX1_shareAt_25 : decode cX1_shareAt 25 = .ok (.dconst 1, 1) := by decide +kernel
theorem dX1_shareAt_26 : decode cX1_shareAt 26 = .ok (.dreturn, 1) := by decide +kernel
theorem dX1_shareAt_27 : decode cX1_shareAt 27 = .ok (.aload_n 0, 1) := by decide +kernel
theorem dX1_shareAt_28 : decode cX1_shareAt 28 = .ok (.iload_n 1, 1) := by decide +kernel
theorem dX1_shareAt_29 : decode cX1_shareAt 29 = .ok (.invokevirtual 59, 3) := by decide +kernel
theorem dX1_shareAt_32 : decode cX1_shareAt 32 = .ok (.dload 4, 2) := by decide +kernel
theorem dX1_shareAt_34 : decode cX1_shareAt 34 = .ok (.dsub, 1) := by decide +kernel
theorem dX1_shareAt_35 : decode cX1_shareAt 35 = .ok (.dload_n 2, 1) := by decide +kernel
theorem dX1_shareAt_36 : decode cX1_shareAt 36 = .ok (.dload 4, 2) := by decide +kernel
theorem dX1_shareAt_38 : decode cX1_shareAt 38 = .ok (.dsub, 1) := by decide +kernel
theorem dX1_shareAt_39 : decode cX1_shareAt 39 = .ok (.ddiv, 1) := by decide +kernel
theorem dX1_shareAt_40 : decode cX1_shareAt 40 = .ok (.dreturn, 1) := by decide +kernel
theorem dX2_init_0 : decode cX2_init 0 = .ok (.aload_n 0, 1) := by decide +kernel
theorem dX2_init_1 : decode cX2_init 1 = .ok (.invokespecial 1, 3) := by decide +kernel
theorem dX2_init_4 : decode cX2_init 4 = .ok (.aload_n 0, 1) := by decide +kernel
theorem dX2_init_5 : decode cX2_init 5 = .ok (.new 7, 3) := by decide +kernel
theorem dX2_init_8 : decode cX2_init 8 = .ok (.dup, 1) := by decide +kernel
theorem dX2_init_9 : decode cX2_init 9 = .ok (.invokespecial 9, 3) := by decide +kernel
theorem dX2_init_12 : decode cX2_init 12 = .ok (.putfield 10, 3) := by decide +kernel
theorem dX2_init_15 : decode cX2_init 15 = .ok (.return_, 1) := by decide +kernel
theorem dX2_start_0 : decode cX2_start 0 = .ok (.aload_n 0, 1) := by decide +kernel
theorem dX2_start_1 : decode cX2_start 1 = .ok (.getfield 10, 3) := by decide +kernel
theorem dX2_start_4 : decode cX2_start 4 = .ok (.iload_n 1, 1) := by decide +kernel
theorem dX2_start_5 : decode cX2_start 5 = .ok (.invokevirtual 16, 3) := by decide +kernel
theorem dX2_start_8 : decode cX2_start 8 = .ok (.aload_n 0, 1) := by decide +kernel
theorem dX2_start_9 : decode cX2_start 9 = .ok (.iconst 1, 1) := by decide +kernel
theorem dX2_start_10 : decode cX2_start 10 = .ok (.putfield 20, 3) := by decide +kernel
theorem dX2_start_13 : decode cX2_start 13 = .ok (.aload_n 0, 1) := by decide +kernel
theorem dX2_start_14 : decode cX2_start 14 = .ok (.iconst 0, 1) := by decide +kernel
theorem dX2_start_15 : decode cX2_start 15 = .ok (.putfield 24, 3) := by decide +kernel
theorem dX2_start_18 : decode cX2_start 18 = .ok (.aload_n 0, 1) := by decide +kernel
theorem dX2_start_19 : decode cX2_start 19 = .ok (.iconst 0, 1) := by decide +kernel
theorem dX2_start_20 : decode cX2_start 20 = .ok (.putfield 28, 3) := by decide +kernel
theorem dX2_start_23 : decode cX2_start 23 = .ok (.aload_n 0, 1) := by decide +kernel
theorem dX2_start_24 : decode cX2_start 24 = .ok (.iconst 0, 1) := by decide +kernel
theorem dX2_start_25 : decode cX2_start 25 = .ok (.putfield 31, 3) := by decide +kernel
theorem dX2_start_28 : decode cX2_start 28 = .ok (.return_, 1) := by decide +kernel
theorem dX2_forget_0 : decode cX2_forget 0 = .ok (.aload_n 0, 1) := by decide +kernel
theorem dX2_forget_1 : decode cX2_forget 1 = .ok (.iconst 0, 1) := by decide +kernel
theorem dX2_forget_2 : decode cX2_forget 2 = .ok (.putfield 20, 3) := by decide +kernel
theorem dX2_forget_5 : decode cX2_forget 5 = .ok (.return_, 1) := by decide +kernel
theorem dX2_isMade_0 : decode cX2_isMade 0 = .ok (.aload_n 0, 1) := by decide +kernel
theorem dX2_isMade_1 : decode cX2_isMade 1 = .ok (.getfield 20, 3) := by decide +kernel
theorem dX2_isMade_4 : decode cX2_isMade 4 = .ok (.ireturn, 1) := by decide +kernel
theorem dX2_ranking_0 : decode cX2_ranking 0 = .ok (.aload_n 0, 1) := by decide +kernel
theorem dX2_ranking_1 : decode cX2_ranking 1 = .ok (.getfield 10, 3) := by decide +kernel
theorem dX2_ranking_4 : decode cX2_ranking 4 = .ok (.areturn, 1) := by decide +kernel
theorem dX2_addScored_0 : decode cX2_addScored 0 = .ok (.aload_n 0, 1) := by decide +kernel
theorem dX2_addScored_1 : decode cX2_addScored 1 = .ok (.dup, 1) := by decide +kernel
theorem dX2_addScored_2 : decode cX2_addScored 2 = .ok (.getfield 24, 3) := by decide +kernel
theorem dX2_addScored_5 : decode cX2_addScored 5 = .ok (.iconst 1, 1) := by decide +kernel
theorem dX2_addScored_6 : decode cX2_addScored 6 = .ok (.iadd, 1) := by decide +kernel
theorem dX2_addScored_7 : decode cX2_addScored 7 = .ok (.putfield 24, 3) := by decide +kernel
theorem dX2_addScored_10 : decode cX2_addScored 10 = .ok (.return_, 1) := by decide +kernel
theorem dX2_addSkipped_0 : decode cX2_addSkipped 0 = .ok (.aload_n 0, 1) := by decide +kernel
theorem dX2_addSkipped_1 : decode cX2_addSkipped 1 = .ok (.dup, 1) := by decide +kernel
theorem dX2_addSkipped_2 : decode cX2_addSkipped 2 = .ok (.getfield 28, 3) := by decide +kernel
theorem dX2_addSkipped_5 : decode cX2_addSkipped 5 = .ok (.iconst 1, 1) := by decide +kernel
theorem dX2_addSkipped_6 : decode cX2_addSkipped 6 = .ok (.iadd, 1) := by decide +kernel
theorem dX2_addSkipped_7 : decode cX2_addSkipped 7 = .ok (.putfield 28, 3) := by decide +kernel
theorem dX2_addSkipped_10 : decode cX2_addSkipped 10 = .ok (.return_, 1) := by decide +kernel
theorem dX2_addPassed_0 : decode cX2_addPassed 0 = .ok (.aload_n 0, 1) := by decide +kernel
theorem dX2_addPassed_1 : decode cX2_addPassed 1 = .ok (.dup, 1) := by decide +kernel
theorem dX2_addPassed_2 : decode cX2_addPassed 2 = .ok (.getfield 31, 3) := by decide +kernel
theorem dX2_addPassed_5 : decode cX2_addPassed 5 = .ok (.iconst 1, 1) := by decide +kernel
theorem dX2_addPassed_6 : decode cX2_addPassed 6 = .ok (.iadd, 1) := by decide +kernel
theorem dX2_addPassed_7 : decode cX2_addPassed 7 = .ok (.putfield 31, 3) := by decide +kernel
theorem dX2_addPassed_10 : decode cX2_addPassed 10 = .ok (.return_, 1) := by decide +kernel
theorem dX2_scored_0 : decode cX2_scored 0 = .ok (.aload_n 0, 1) := by decide +kernel
theorem dX2_scored_1 : decode cX2_scored 1 = .ok (.getfield 24, 3) := by decide +kernel
theorem dX2_scored_4 : decode cX2_scored 4 = .ok (.ireturn, 1) := by decide +kernel
theorem dX2_skipped_0 : decode cX2_skipped 0 = .ok (.aload_n 0, 1) := by decide +kernel
theorem dX2_skipped_1 : decode cX2_skipped 1 = .ok (.getfield 28, 3) := by decide +kernel
theorem dX2_skipped_4 : decode cX2_skipped 4 = .ok (.ireturn, 1) := by decide +kernel
theorem dX2_passed_0 : decode cX2_passed 0 = .ok (.aload_n 0, 1) := by decide +kernel
theorem dX2_passed_1 : decode cX2_passed 1 = .ok (.getfield 31, 3) := by decide +kernel
theorem dX2_passed_4 : decode cX2_passed 4 = .ok (.ireturn, 1) := by decide +kernel
theorem dX3_init_0 : decode cX3_init 0 = .ok (.aload_n 0, 1) := by decide +kernel
theorem dX3_init_1 : decode cX3_init 1 = .ok (.invokespecial 3, 3) := by decide +kernel
theorem dX3_init_4 : decode cX3_init 4 = .ok (.aload_n 0, 1) := by decide +kernel
theorem dX3_init_5 : decode cX3_init 5 = .ok (.iconst 4, 1) := by decide +kernel
theorem dX3_init_6 : decode cX3_init 6 = .ok (.bipush 16, 2) := by decide +kernel
theorem dX3_init_8 : decode cX3_init 8 = .ok (.multianewarray 9 2, 4) := by decide +kernel
theorem dX3_init_12 : decode cX3_init 12 = .ok (.putfield 11, 3) := by decide +kernel
theorem dX3_init_15 : decode cX3_init 15 = .ok (.aload_n 0, 1) := by decide +kernel
theorem dX3_init_16 : decode cX3_init 16 = .ok (.iconst 4, 1) := by decide +kernel
theorem dX3_init_17 : decode cX3_init 17 = .ok (.iconst 4, 1) := by decide +kernel
theorem dX3_init_18 : decode cX3_init 18 = .ok (.multianewarray 9 2, 4) := by decide +kernel
theorem dX3_init_22 : decode cX3_init 22 = .ok (.putfield 16, 3) := by decide +kernel
theorem dX3_init_25 : decode cX3_init 25 = .ok (.return_, 1) := by decide +kernel
theorem dX3_fillWords_0 : decode cX3_fillWords 0 = .ok (.aload_n 0, 1) := by decide +kernel
theorem dX3_fillWords_1 : decode cX3_fillWords 1 = .ok (.aload_n 2, 1) := by decide +kernel
theorem dX3_fillWords_2 : decode cX3_fillWords 2 = .ok (.invokevirtual 19, 3) := by decide +kernel
theorem dX3_fillWords_5 : decode cX3_fillWords 5 = .ok (.putfield 25, 3) := by decide +kernel
theorem dX3_fillWords_8 : decode cX3_fillWords 8 = .ok (.aload_n 1, 1) := by decide +kernel
theorem dX3_fillWords_9 : decode cX3_fillWords 9 = .ok (.invokevirtual 29, 3) := by decide +kernel
theorem dX3_fillWords_12 : decode cX3_fillWords 12 = .ok (.dstore_n 3, 1) := by decide +kernel
theorem dX3_fillWords_13 : decode cX3_fillWords 13 = .ok (.iconst 0, 1) := by decide +kernel
theorem dX3_fillWords_14 : decode cX3_fillWords 14 = .ok (.istore 5, 2) := by decide +kernel
theorem dX3_fillWords_16 : decode cX3_fillWords 16 = .ok (.iload 5, 2) := by decide +kernel
theorem dX3_fillWords_18 : decode cX3_fillWords 18 = .ok (.aload_n 0, 1) := by decide +kernel
theorem dX3_fillWords_19 : decode cX3_fillWords 19 = .ok (.getfield 25, 3) := by decide +kernel
theorem dX3_fillWords_22 : decode cX3_fillWords 22 = .ok (.if_icmp .ge 84, 3) := by decide +kernel
theorem dX3_fillWords_25 : decode cX3_fillWords 25 = .ok (.aload_n 2, 1) := by decide +kernel
theorem dX3_fillWords_26 : decode cX3_fillWords 26 = .ok (.iload 5, 2) := by decide +kernel
theorem dX3_fillWords_28 : decode cX3_fillWords 28 = .ok (.invokevirtual 35, 3) := by decide +kernel
theorem dX3_fillWords_31 : decode cX3_fillWords 31 = .ok (.istore 6, 2) := by decide +kernel
theorem dX3_fillWords_33 : decode cX3_fillWords 33 = .ok (.aload_n 1, 1) := by decide +kernel
theorem dX3_fillWords_34 : decode cX3_fillWords 34 = .ok (.invokevirtual 39, 3) := by decide +kernel
theorem dX3_fillWords_37 : decode cX3_fillWords 37 = .ok (.aload_n 1, 1) := by decide +kernel
theorem dX3_fillWords_38 : decode cX3_fillWords 38 = .ok (.iload 6, 2) := by decide +kernel
theorem dX3_fillWords_40 : decode cX3_fillWords 40 = .ok (.invokevirtual 40, 3) := by decide +kernel
theorem dX3_fillWords_43 : decode cX3_fillWords 43 = .ok (.invokestatic 43, 3) := by decide +kernel
theorem dX3_fillWords_46 : decode cX3_fillWords 46 = .ok (.dstore 7, 2) := by decide +kernel
theorem dX3_fillWords_48 : decode cX3_fillWords 48 = .ok (.iconst 0, 1) := by decide +kernel
theorem dX3_fillWords_49 : decode cX3_fillWords 49 = .ok (.istore 9, 2) := by decide +kernel
theorem dX3_fillWords_51 : decode cX3_fillWords 51 = .ok (.iload 9, 2) := by decide +kernel
theorem dX3_fillWords_53 : decode cX3_fillWords 53 = .ok (.aload_n 1, 1) := by decide +kernel
theorem dX3_fillWords_54 : decode cX3_fillWords 54 = .ok (.invokevirtual 39, 3) := by decide +kernel
theorem dX3_fillWords_57 : decode cX3_fillWords 57 = .ok (.if_icmp .ge 43, 3) := by decide +kernel
theorem dX3_fillWords_60 : decode cX3_fillWords 60 = .ok (.aload_n 1, 1) := by decide +kernel
theorem dX3_fillWords_61 : decode cX3_fillWords 61 = .ok (.iload 9, 2) := by decide +kernel
theorem dX3_fillWords_63 : decode cX3_fillWords 63 = .ok (.iload 6, 2) := by decide +kernel
theorem dX3_fillWords_65 : decode cX3_fillWords 65 = .ok (.invokevirtual 47, 3) := by decide +kernel
theorem dX3_fillWords_68 : decode cX3_fillWords 68 = .ok (.istore 10, 2) := by decide +kernel
theorem dX3_fillWords_70 : decode cX3_fillWords 70 = .ok (.aload_n 0, 1) := by decide +kernel
theorem dX3_fillWords_71 : decode cX3_fillWords 71 = .ok (.getfield 11, 3) := by decide +kernel
theorem dX3_fillWords_74 : decode cX3_fillWords 74 = .ok (.iload 5, 2) := by decide +kernel
theorem dX3_fillWords_76 : decode cX3_fillWords 76 = .ok (.aaload, 1) := by decide +kernel
theorem dX3_fillWords_77 : decode cX3_fillWords 77 = .ok (.iload 9, 2) := by decide +kernel
theorem dX3_fillWords_79 : decode cX3_fillWords 79 = .ok (.dload 7, 2) := by decide +kernel
theorem dX3_fillWords_81 : decode cX3_fillWords 81 = .ok (.iload 10, 2) := by decide +kernel
theorem dX3_fillWords_83 : decode cX3_fillWords 83 = .ok (.aload_n 1, 1) := by decide +kernel
theorem dX3_fillWords_84 : decode cX3_fillWords 84 = .ok (.iload 9, 2) := by decide +kernel
theorem dX3_fillWords_86 : decode cX3_fillWords 86 = .ok (.invokevirtual 51, 3) := by decide +kernel
theorem dX3_fillWords_89 : decode cX3_fillWords 89 = .ok (.dload_n 3, 1) := by decide +kernel
theorem dX3_fillWords_90 : decode cX3_fillWords 90 = .ok (.invokestatic 54, 3) := by decide +kernel
theorem dX3_fillWords_93 : decode cX3_fillWords 93 = .ok (.dastore, 1) := by decide +kernel
theorem dX3_fillWords_94 : decode cX3_fillWords 94 = .ok (.iinc 9 1, 3) := by decide +kernel
theorem dX3_fillWords_97 : decode cX3_fillWords 97 = .ok (.goto (-46), 3) := by decide +kernel
theorem dX3_fillWords_100 : decode cX3_fillWords 100 = .ok (.iinc 5 1, 3) := by decide +kernel
theorem dX3_fillWords_103 : decode cX3_fillWords 103 = .ok (.goto (-87), 3) := by decide +kernel
theorem dX3_fillWords_106 : decode cX3_fillWords 106 = .ok (.aload_n 0, 1) := by decide +kernel
theorem dX3_fillWords_107 : decode cX3_fillWords 107 = .ok (.aload_n 1, 1) := by decide +kernel
theorem dX3_fillWords_108 : decode cX3_fillWords 108 = .ok (.invokevirtual 39, 3) := by decide +kernel
theorem dX3_fillWords_111 : decode cX3_fillWords 111 = .ok (.invokevirtual 58, 3) := by decide +kernel
theorem dX3_fillWords_114 : decode cX3_fillWords 114 = .ok (.return_, 1) := by decide +kernel
theorem dX3_fillImpacts_0 : decode cX3_fillImpacts 0 = .ok (.aload_n 0, 1) := by decide +kernel
theorem dX3_fillImpacts_1 : decode cX3_fillImpacts 1 = .ok (.aload_n 2, 1) := by decide +kernel
theorem dX3_fillImpacts_2 : decode cX3_fillImpacts 2 = .ok (.invokevirtual 19, 3) := by decide +kernel
theorem dX3_fillImpacts_5 : decode cX3_fillImpacts 5 = .ok (.putfield 25, 3) := by decide +kernel
theorem dX3_fillImpacts_8 : decode cX3_fillImpacts 8 = .ok (.aload_n 1, 1) := by decide +kernel
theorem dX3_fillImpacts_9 : decode cX3_fillImpacts 9 = .ok (.invokevirtual 62, 3) := by decide +kernel
theorem dX3_fillImpacts_12 : decode cX3_fillImpacts 12 = .ok (.fstore_n 3, 1) := by decide +kernel
theorem dX3_fillImpacts_13 : decode cX3_fillImpacts 13 = .ok (.iconst 0, 1) := by decide +kernel
theorem dX3_fillImpacts_14 : decode cX3_fillImpacts 14 = .ok (.istore 4, 2) := by decide +kernel
theorem dX3_fillImpacts_16 : decode cX3_fillImpacts 16 = .ok (.iload 4, 2) := by decide +kernel
theorem dX3_fillImpacts_18 : decode cX3_fillImpacts 18 = .ok (.aload_n 0, 1) := by decide +kernel
theorem dX3_fillImpacts_19 : decode cX3_fillImpacts 19 = .ok (.getfield 25, 3) := by decide +kernel
theorem dX3_fillImpacts_22 : decode cX3_fillImpacts 22 = .ok (.if_icmp .ge 64, 3) := by decide +kernel
theorem dX3_fillImpacts_25 : decode cX3_fillImpacts 25 = .ok (.iconst 0, 1) := by decide +kernel
theorem dX3_fillImpacts_26 : decode cX3_fillImpacts 26 = .ok (.istore 5, 2) := by decide +kernel
theorem dX3_fillImpacts_28 : decode cX3_fillImpacts 28 = .ok (.iload 5, 2) := by decide +kernel
theorem dX3_fillImpacts_30 : decode cX3_fillImpacts 30 = .ok (.aload_n 1, 1) := by decide +kernel
theorem dX3_fillImpacts_31 : decode cX3_fillImpacts 31 = .ok (.invokevirtual 39, 3) := by decide +kernel
theorem dX3_fillImpacts_34 : decode cX3_fillImpacts 34 = .ok (.if_icmp .ge 46, 3) := by decide +kernel
theorem dX3_fillImpacts_37 : decode cX3_fillImpacts 37 = .ok (.aload_n 1, 1) := by decide +kernel
theorem dX3_fillImpacts_38 : decode cX3_fillImpacts 38 = .ok (.iload 5, 2) := by decide +kernel
theorem dX3_fillImpacts_40 : decode cX3_fillImpacts 40 = .ok (.aload_n 2, 1) := by decide +kernel
theorem dX3_fillImpacts_41 : decode cX3_fillImpacts 41 = .ok (.iload 4, 2) := by decide +kernel
theorem dX3_fillImpacts_43 : decode cX3_fillImpacts 43 = .ok (.invokevirtual 35, 3) := by decide +kernel
theorem dX3_fillImpacts_46 : decode cX3_fillImpacts 46 = .ok (.fload_n 3, 1) := by decide +kernel
theorem dX3_fillImpacts_47 : decode cX3_fillImpacts 47 = .ok (.invokevirtual 66, 3) := by decide +kernel
theorem dX3_fillImpacts_50 : decode cX3_fillImpacts 50 = .ok (.i2l, 1) := by decide +kernel
theorem dX3_fillImpacts_51 : decode cX3_fillImpacts 51 = .ok (.lstore 6, 2) := by decide +kernel
theorem dX3_fillImpacts_53 : decode cX3_fillImpacts 53 = .ok (.aload_n 0, 1) := by decide +kernel
theorem dX3_fillImpacts_54 : decode cX3_fillImpacts 54 = .ok (.getfield 11, 3) := by decide +kernel
theorem dX3_fillImpacts_57 : decode cX3_fillImpacts 57 = .ok (.iload 4, 2) := by decide +kernel
theorem dX3_fillImpacts_59 : decode cX3_fillImpacts 59 = .ok (.aaload, 1) := by decide +kernel
theorem dX3_fillImpacts_60 : decode cX3_fillImpacts 60 = .ok (.iload 5, 2) := by decide +kernel
theorem dX3_fillImpacts_62 : decode cX3_fillImpacts 62 = .ok (.aload_n 2, 1) := by decide +kernel
theorem dX3_fillImpacts_63 : decode cX3_fillImpacts 63 = .ok (.iload 4, 2) := by decide +kernel
theorem dX3_fillImpacts_65 : decode cX3_fillImpacts 65 = .ok (.invokevirtual 70, 3) := by decide +kernel
theorem dX3_fillImpacts_68 : decode cX3_fillImpacts 68 = .ok (.i2l, 1) := by decide +kernel
theorem dX3_fillImpacts_69 : decode cX3_fillImpacts 69 = .ok (.lload 6, 2) := by decide +kernel
theorem dX3_fillImpacts_71 : decode cX3_fillImpacts 71 = .ok (.lmul, 1) := by decide +kernel
theorem dX3_fillImpacts_72 : decode cX3_fillImpacts 72 = .ok (.l2d, 1) := by decide +kernel
theorem dX3_fillImpacts_73 : decode cX3_fillImpacts 73 = .ok (.dastore, 1) := by decide +kernel
theorem dX3_fillImpacts_74 : decode cX3_fillImpacts 74 = .ok (.iinc 5 1, 3) := by decide +kernel
theorem dX3_fillImpacts_77 : decode cX3_fillImpacts 77 = .ok (.goto (-49), 3) := by decide +kernel
theorem dX3_fillImpacts_80 : decode cX3_fillImpacts 80 = .ok (.iinc 4 1, 3) := by decide +kernel
theorem dX3_fillImpacts_83 : decode cX3_fillImpacts 83 = .ok (.goto (-67), 3) := by decide +kernel
theorem dX3_fillImpacts_86 : decode cX3_fillImpacts 86 = .ok (.aload_n 0, 1) := by decide +kernel
theorem dX3_fillImpacts_87 : decode cX3_fillImpacts 87 = .ok (.aload_n 1, 1) := by decide +kernel
theorem dX3_fillImpacts_88 : decode cX3_fillImpacts 88 = .ok (.invokevirtual 39, 3) := by decide +kernel
theorem dX3_fillImpacts_91 : decode cX3_fillImpacts 91 = .ok (.invokevirtual 58, 3) := by decide +kernel
theorem dX3_fillImpacts_94 : decode cX3_fillImpacts 94 = .ok (.return_, 1) := by decide +kernel
theorem dX3_fillBounds_0 : decode cX3_fillBounds 0 = .ok (.iconst 0, 1) := by decide +kernel
theorem dX3_fillBounds_1 : decode cX3_fillBounds 1 = .ok (.istore_n 2, 1) := by decide +kernel
theorem dX3_fillBounds_2 : decode cX3_fillBounds 2 = .ok (.iload_n 2, 1) := by decide +kernel
theorem dX3_fillBounds_3 : decode cX3_fillBounds 3 = .ok (.aload_n 0, 1) := by decide +kernel
theorem dX3_fillBounds_4 : decode cX3_fillBounds 4 = .ok (.getfield 25, 3) := by decide +kernel
theorem dX3_fillBounds_7 : decode cX3_fillBounds 7 = .ok (.if_icmp .ge 87, 3) := by decide +kernel
theorem dX3_fillBounds_10 : decode cX3_fillBounds 10 = .ok (.iconst 0, 1) := by decide +kernel
theorem dX3_fillBounds_11 : decode cX3_fillBounds 11 = .ok (.istore_n 3, 1) := by decide +kernel
theorem dX3_fillBounds_12 : decode cX3_fillBounds 12 = .ok (.iload_n 3, 1) := by decide +kernel
theorem dX3_fillBounds_13 : decode cX3_fillBounds 13 = .ok (.iconst 4, 1) := by decide +kernel
theorem dX3_fillBounds_14 : decode cX3_fillBounds 14 = .ok (.if_icmp .ge 18, 3) := by decide +kernel
theorem dX3_fillBounds_17 : decode cX3_fillBounds 17 = .ok (.aload_n 0, 1) := by decide +kernel
theorem dX3_fillBounds_18 : decode cX3_fillBounds 18 = .ok (.getfield 16, 3) := by decide +kernel
theorem dX3_fillBounds_21 : decode cX3_fillBounds 21 = .ok (.iload_n 2, 1) := by decide +kernel
theorem dX3_fillBounds_22 : decode cX3_fillBounds 22 = .ok (.aaload, 1) := by decide +kernel
theorem dX3_fillBounds_23 : decode cX3_fillBounds 23 = .ok (.iload_n 3, 1) := by decide +kernel
theorem dX3_fillBounds_24 : decode cX3_fillBounds 24 = .ok (.dconst 0, 1) := by decide +kernel
theorem dX3_fillBounds_25 : decode cX3_fillBounds 25 = .ok (.dastore, 1) := by decide +kernel
theorem dX3_fillBounds_26 : decode cX3_fillBounds 26 = .ok (.iinc 3 1, 3) := by decide +kernel
theorem dX3_fillBounds_29 : decode cX3_fillBounds 29 = .ok (.goto (-17), 3) := by decide +kernel
theorem dX3_fillBounds_32 : decode cX3_fillBounds 32 = .ok (.iconst 0, 1) := by decide +kernel
theorem dX3_fillBounds_33 : decode cX3_fillBounds 33 = .ok (.istore_n 3, 1) := by decide +kernel
theorem dX3_fillBounds_34 : decode cX3_fillBounds 34 = .ok (.iload_n 3, 1) := by decide +kernel
theorem dX3_fillBounds_35 : decode cX3_fillBounds 35 = .ok (.iload_n 1, 1) := by decide +kernel
theorem dX3_fillBounds_36 : decode cX3_fillBounds 36 = .ok (.if_icmp .ge 52, 3) := by decide +kernel
theorem dX3_fillBounds_39 : decode cX3_fillBounds 39 = .ok (.iload_n 3, 1) := by decide +kernel
theorem dX3_fillBounds_40 : decode cX3_fillBounds 40 = .ok (.iconst 4, 1) := by decide +kernel
theorem dX3_fillBounds_41 : decode cX3_fillBounds 41 = .ok (.idiv, 1) := by decide +kernel
theorem dX3_fillBounds_42 : decode cX3_fillBounds 42 = .ok (.istore 4, 2) := by decide +kernel
theorem dX3_fillBounds_44 : decode cX3_fillBounds 44 = .ok (.aload_n 0, 1) := by decide +kernel
theorem dX3_fillBounds_45 : decode cX3_fillBounds 45 = .ok (.getfield 11, 3) := by decide +kernel
theorem dX3_fillBounds_48 : decode cX3_fillBounds 48 = .ok (.iload_n 2, 1) := by decide +kernel
theorem dX3_fillBounds_49 : decode cX3_fillBounds 49 = .ok (.aaload, 1) := by decide +kernel
theorem dX3_fillBounds_50 : decode cX3_fillBounds 50 = .ok (.iload_n 3, 1) := by decide +kernel
theorem dX3_fillBounds_51 : decode cX3_fillBounds 51 = .ok (.daload, 1) := by decide +kernel
theorem dX3_fillBounds_52 : decode cX3_fillBounds 52 = .ok (.aload_n 0, 1) := by decide +kernel
theorem dX3_fillBounds_53 : decode cX3_fillBounds 53 = .ok (.getfield 16, 3) := by decide +kernel
theorem dX3_fillBounds_56 : decode cX3_fillBounds 56 = .ok (.iload_n 2, 1) := by decide +kernel
theorem dX3_fillBounds_57 : decode cX3_fillBounds 57 = .ok (.aaload, 1) := by decide +kernel
theorem dX3_fillBounds_58 : decode cX3_fillBounds 58 = .ok (.iload 4, 2) := by decide +kernel
theorem dX3_fillBounds_60 : decode cX3_fillBounds 60 = .ok (.daload, 1) := by decide +kernel
theorem dX3_fillBounds_61 : decode cX3_fillBounds 61 = .ok (.dcmp .l, 1) := by decide +kernel
theorem dX3_fillBounds_62 : decode cX3_fillBounds 62 = .ok (.ifCond .le 20, 3) := by decide +kernel
theorem dX3_fillBounds_65 : decode cX3_fillBounds 65 = .ok (.aload_n 0, 1) := by decide +kernel
theorem dX3_fillBounds_66 : decode cX3_fillBounds 66 = .ok (.getfield 16, 3) := by decide +kernel
theorem dX3_fillBounds_69 : decode cX3_fillBounds 69 = .ok (.iload_n 2, 1) := by decide +kernel
theorem dX3_fillBounds_70 : decode cX3_fillBounds 70 = .ok (.aaload, 1) := by decide +kernel
theorem dX3_fillBounds_71 : decode cX3_fillBounds 71 = .ok (.iload 4, 2) := by decide +kernel
theorem dX3_fillBounds_73 : decode cX3_fillBounds 73 = .ok (.aload_n 0, 1) := by decide +kernel
theorem dX3_fillBounds_74 : decode cX3_fillBounds 74 = .ok (.getfield 11, 3) := by decide +kernel
theorem dX3_fillBounds_77 : decode cX3_fillBounds 77 = .ok (.iload_n 2, 1) := by decide +kernel
theorem dX3_fillBounds_78 : decode cX3_fillBounds 78 = .ok (.aaload, 1) := by decide +kernel
theorem dX3_fillBounds_79 : decode cX3_fillBounds 79 = .ok (.iload_n 3, 1) := by decide +kernel
theorem dX3_fillBounds_80 : decode cX3_fillBounds 80 = .ok (.daload, 1) := by decide +kernel
theorem dX3_fillBounds_81 : decode cX3_fillBounds 81 = .ok (.dastore, 1) := by decide +kernel
theorem dX3_fillBounds_82 : decode cX3_fillBounds 82 = .ok (.iinc 3 1, 3) := by decide +kernel
theorem dX3_fillBounds_85 : decode cX3_fillBounds 85 = .ok (.goto (-51), 3) := by decide +kernel
theorem dX3_fillBounds_88 : decode cX3_fillBounds 88 = .ok (.iinc 2 1, 3) := by decide +kernel
theorem dX3_fillBounds_91 : decode cX3_fillBounds 91 = .ok (.goto (-89), 3) := by decide +kernel
theorem dX3_fillBounds_94 : decode cX3_fillBounds 94 = .ok (.return_, 1) := by decide +kernel
theorem dX3_matches_0 : decode cX3_matches 0 = .ok (.iconst 0, 1) := by decide +kernel
theorem dX3_matches_1 : decode cX3_matches 1 = .ok (.istore_n 2, 1) := by decide +kernel
theorem dX3_matches_2 : decode cX3_matches 2 = .ok (.iload_n 2, 1) := by decide +kernel
theorem dX3_matches_3 : decode cX3_matches 3 = .ok (.aload_n 0, 1) := by decide +kernel
theorem dX3_matches_4 : decode cX3_matches 4 = .ok (.getfield 25, 3) := by decide +kernel
theorem dX3_matches_7 : decode cX3_matches 7 = .ok (.if_icmp .ge 24, 3) := by decide +kernel
theorem dX3_matches_10 : decode cX3_matches 10 = .ok (.aload_n 0, 1) := by decide +kernel
theorem dX3_matches_11 : decode cX3_matches 11 = .ok (.getfield 11, 3) := by decide +kernel
theorem dX3_matches_14 : decode cX3_matches 14 = .ok (.iload_n 2, 1) := by decide +kernel
theorem dX3_matches_15 : decode cX3_matches 15 = .ok (.aaload, 1) := by decide +kernel
theorem dX3_matches_16 : decode cX3_matches 16 = .ok (.iload_n 1, 1) := by decide +kernel
theorem dX3_matches_17 : decode cX3_matches 17 = .ok (.daload, 1) := by decide +kernel
theorem dX3_matches_18 : decode cX3_matches 18 = .ok (.dconst 0, 1) := by decide +kernel
theorem dX3_matches_19 : decode cX3_matches 19 = .ok (.dcmp .l, 1) := by decide +kernel
theorem dX3_matches_20 : decode cX3_matches 20 = .ok (.ifCond .le 5, 3) := by decide +kernel
theorem dX3_matches_23 : decode cX3_matches 23 = .ok (.iconst 1, 1) := by decide +kernel
theorem dX3_matches_24 : decode cX3_matches 24 = .ok (.ireturn, 1) := by decide +kernel
theorem dX3_matches_25 : decode cX3_matches 25 = .ok (.iinc 2 1, 3) := by decide +kernel
theorem dX3_matches_28 : decode cX3_matches 28 = .ok (.goto (-26), 3) := by decide +kernel
theorem dX3_matches_31 : decode cX3_matches 31 = .ok (.iconst 0, 1) := by decide +kernel
theorem dX3_matches_32 : decode cX3_matches 32 = .ok (.ireturn, 1) := by decide +kernel
theorem dX3_scoreOf_0 : decode cX3_scoreOf 0 = .ok (.dconst 0, 1) := by decide +kernel
theorem dX3_scoreOf_1 : decode cX3_scoreOf 1 = .ok (.dstore_n 2, 1) := by decide +kernel
theorem dX3_scoreOf_2 : decode cX3_scoreOf 2 = .ok (.iconst 0, 1) := by decide +kernel
theorem dX3_scoreOf_3 : decode cX3_scoreOf 3 = .ok (.istore 4, 2) := by decide +kernel
theorem dX3_scoreOf_5 : decode cX3_scoreOf 5 = .ok (.iload 4, 2) := by decide +kernel
theorem dX3_scoreOf_7 : decode cX3_scoreOf 7 = .ok (.aload_n 0, 1) := by decide +kernel
theorem dX3_scoreOf_8 : decode cX3_scoreOf 8 = .ok (.getfield 25, 3) := by decide +kernel
theorem dX3_scoreOf_11 : decode cX3_scoreOf 11 = .ok (.if_icmp .ge 35, 3) := by decide +kernel
theorem dX3_scoreOf_14 : decode cX3_scoreOf 14 = .ok (.aload_n 0, 1) := by decide +kernel
theorem dX3_scoreOf_15 : decode cX3_scoreOf 15 = .ok (.getfield 11, 3) := by decide +kernel
theorem dX3_scoreOf_18 : decode cX3_scoreOf 18 = .ok (.iload 4, 2) := by decide +kernel
theorem dX3_scoreOf_20 : decode cX3_scoreOf 20 = .ok (.aaload, 1) := by decide +kernel
theorem dX3_scoreOf_21 : decode cX3_scoreOf 21 = .ok (.iload_n 1, 1) := by decide +kernel
theorem dX3_scoreOf_22 : decode cX3_scoreOf 22 = .ok (.daload, 1) := by decide +kernel
theorem dX3_scoreOf_23 : decode cX3_scoreOf 23 = .ok (.dconst 0, 1) := by decide +kernel
theorem dX3_scoreOf_24 : decode cX3_scoreOf 24 = .ok (.dcmp .l, 1) := by decide +kernel
theorem dX3_scoreOf_25 : decode cX3_scoreOf 25 = .ok (.ifCond .le 15, 3) := by decide +kernel
theorem dX3_scoreOf_28 : decode cX3_scoreOf 28 = .ok (.dload_n 2, 1) := by decide +kernel
theorem dX3_scoreOf_29 : decode cX3_scoreOf 29 = .ok (.aload_n 0, 1) := by decide +kernel
theorem dX3_scoreOf_30 : decode cX3_scoreOf 30 = .ok (.getfield 11, 3) := by decide +kernel
theorem dX3_scoreOf_33 : decode cX3_scoreOf 33 = .ok (.iload 4, 2) := by decide +kernel
theorem dX3_scoreOf_35 : decode cX3_scoreOf 35 = .ok (.aaload, 1) := by decide +kernel
theorem dX3_scoreOf_36 : decode cX3_scoreOf 36 = .ok (.iload_n 1, 1) := by decide +kernel
theorem dX3_scoreOf_37 : decode cX3_scoreOf 37 = .ok (.daload, 1) := by decide +kernel
theorem dX3_scoreOf_38 : decode cX3_scoreOf 38 = .ok (.dadd, 1) := by decide +kernel
theorem dX3_scoreOf_39 : decode cX3_scoreOf 39 = .ok (.dstore_n 2, 1) := by decide +kernel
theorem dX3_scoreOf_40 : decode cX3_scoreOf 40 = .ok (.iinc 4 1, 3) := by decide +kernel
theorem dX3_scoreOf_43 : decode cX3_scoreOf 43 = .ok (.goto (-38), 3) := by decide +kernel
theorem dX3_scoreOf_46 : decode cX3_scoreOf 46 = .ok (.dload_n 2, 1) := by decide +kernel
theorem dX3_scoreOf_47 : decode cX3_scoreOf 47 = .ok (.dreturn, 1) := by decide +kernel
theorem dX3_blockBound_0 : decode cX3_blockBound 0 = .ok (.dconst 0, 1) := by decide +kernel
theorem dX3_blockBound_1 : decode cX3_blockBound 1 = .ok (.dstore_n 2, 1) := by decide +kernel
theorem dX3_blockBound_2 : decode cX3_blockBound 2 = .ok (.iconst 0, 1) := by decide +kernel
theorem dX3_blockBound_3 : decode cX3_blockBound 3 = .ok (.istore 4, 2) := by decide +kernel
theorem dX3_blockBound_5 : decode cX3_blockBound 5 = .ok (.iload 4, 2) := by decide +kernel
theorem dX3_blockBound_7 : decode cX3_blockBound 7 = .ok (.aload_n 0, 1) := by decide +kernel
theorem dX3_blockBound_8 : decode cX3_blockBound 8 = .ok (.getfield 25, 3) := by decide +kernel
theorem dX3_blockBound_11 : decode cX3_blockBound 11 = .ok (.if_icmp .ge 21, 3) := by decide +kernel
theorem dX3_blockBound_14 : decode cX3_blockBound 14 = .ok (.dload_n 2, 1) := by decide +kernel
theorem dX3_blockBound_15 : decode cX3_blockBound 15 = .ok (.aload_n 0, 1) := by decide +kernel
theorem dX3_blockBound_16 : decode cX3_blockBound 16 = .ok (.getfield 16, 3) := by decide +kernel
theorem dX3_blockBound_19 : decode cX3_blockBound 19 = .ok (.iload 4, 2) := by decide +kernel
theorem dX3_blockBound_21 : decode cX3_blockBound 21 = .ok (.aaload, 1) := by decide +kernel
theorem dX3_blockBound_22 : decode cX3_blockBound 22 = .ok (.iload_n 1, 1) := by decide +kernel
theorem dX3_blockBound_23 : decode cX3_blockBound 23 = .ok (.daload, 1) := by decide +kernel
theorem dX3_blockBound_24 : decode cX3_blockBound 24 = .ok (.dadd, 1) := by decide +kernel
theorem dX3_blockBound_25 : decode cX3_blockBound 25 = .ok (.dstore_n 2, 1) := by decide +kernel
theorem dX3_blockBound_26 : decode cX3_blockBound 26 = .ok (.iinc 4 1, 3) := by decide +kernel
theorem dX3_blockBound_29 : decode cX3_blockBound 29 = .ok (.goto (-24), 3) := by decide +kernel
theorem dX3_blockBound_32 : decode cX3_blockBound 32 = .ok (.dload_n 2, 1) := by decide +kernel
theorem dX3_blockBound_33 : decode cX3_blockBound 33 = .ok (.dreturn, 1) := by decide +kernel
theorem dX3_documentBound_0 : decode cX3_documentBound 0 = .ok (.dconst 0, 1) := by decide +kernel
theorem dX3_documentBound_1 : decode cX3_documentBound 1 = .ok (.dstore_n 2, 1) := by decide +kernel
theorem dX3_documentBound_2 : decode cX3_documentBound 2 = .ok (.iconst 0, 1) := by decide +kernel
theorem dX3_documentBound_3 : decode cX3_documentBound 3 = .ok (.istore 4, 2) := by decide +kernel
theorem dX3_documentBound_5 : decode cX3_documentBound 5 = .ok (.iload 4, 2) := by decide +kernel
theorem dX3_documentBound_7 : decode cX3_documentBound 7 = .ok (.aload_n 0, 1) := by decide +kernel
theorem dX3_documentBound_8 : decode cX3_documentBound 8 = .ok (.getfield 25, 3) := by decide +kernel
theorem dX3_documentBound_11 : decode cX3_documentBound 11 = .ok (.if_icmp .ge 37, 3) := by decide +kernel
theorem dX3_documentBound_14 : decode cX3_documentBound 14 = .ok (.aload_n 0, 1) := by decide +kernel
theorem dX3_documentBound_15 : decode cX3_documentBound 15 = .ok (.getfield 11, 3) := by decide +kernel
theorem dX3_documentBound_18 : decode cX3_documentBound 18 = .ok (.iload 4, 2) := by decide +kernel
theorem dX3_documentBound_20 : decode cX3_documentBound 20 = .ok (.aaload, 1) := by decide +kernel
theorem dX3_documentBound_21 : decode cX3_documentBound 21 = .ok (.iload_n 1, 1) := by decide +kernel
theorem dX3_documentBound_22 : decode cX3_documentBound 22 = .ok (.daload, 1) := by decide +kernel
theorem dX3_documentBound_23 : decode cX3_documentBound 23 = .ok (.dconst 0, 1) := by decide +kernel
theorem dX3_documentBound_24 : decode cX3_documentBound 24 = .ok (.dcmp .l, 1) := by decide +kernel
theorem dX3_documentBound_25 : decode cX3_documentBound 25 = .ok (.ifCond .le 17, 3) := by decide +kernel
theorem dX3_documentBound_28 : decode cX3_documentBound 28 = .ok (.dload_n 2, 1) := by decide +kernel
theorem dX3_documentBound_29 : decode cX3_documentBound 29 = .ok (.aload_n 0, 1) := by decide +kernel
theorem dX3_documentBound_30 : decode cX3_documentBound 30 = .ok (.getfield 16, 3) := by decide +kernel
theorem dX3_documentBound_33 : decode cX3_documentBound 33 = .ok (.iload 4, 2) := by decide +kernel
theorem dX3_documentBound_35 : decode cX3_documentBound 35 = .ok (.aaload, 1) := by decide +kernel
theorem dX3_documentBound_36 : decode cX3_documentBound 36 = .ok (.iload_n 1, 1) := by decide +kernel
theorem dX3_documentBound_37 : decode cX3_documentBound 37 = .ok (.iconst 4, 1) := by decide +kernel
theorem dX3_documentBound_38 : decode cX3_documentBound 38 = .ok (.idiv, 1) := by decide +kernel
theorem dX3_documentBound_39 : decode cX3_documentBound 39 = .ok (.daload, 1) := by decide +kernel
theorem dX3_documentBound_40 : decode cX3_documentBound 40 = .ok (.dadd, 1) := by decide +kernel
theorem dX3_documentBound_41 : decode cX3_documentBound 41 = .ok (.dstore_n 2, 1) := by decide +kernel
theorem dX3_documentBound_42 : decode cX3_documentBound 42 = .ok (.iinc 4 1, 3) := by decide +kernel
theorem dX3_documentBound_45 : decode cX3_documentBound 45 = .ok (.goto (-40), 3) := by decide +kernel
theorem dX3_documentBound_48 : decode cX3_documentBound 48 = .ok (.dload_n 2, 1) := by decide +kernel
theorem dX3_documentBound_49 : decode cX3_documentBound 49 = .ok (.dreturn, 1) := by decide +kernel
theorem dX4_init_0 : decode cX4_init 0 = .ok (.aload_n 0, 1) := by decide +kernel
theorem dX4_init_1 : decode cX4_init 1 = .ok (.invokespecial 3, 3) := by decide +kernel
theorem dX4_init_4 : decode cX4_init 4 = .ok (.aload_n 0, 1) := by decide +kernel
theorem dX4_init_5 : decode cX4_init 5 = .ok (.bipush 20, 2) := by decide +kernel
theorem dX4_init_7 : decode cX4_init 7 = .ok (.newarray .int, 2) := by decide +kernel
theorem dX4_init_9 : decode cX4_init 9 = .ok (.putfield 9, 3) := by decide +kernel
theorem dX4_init_12 : decode cX4_init 12 = .ok (.aload_n 0, 1) := by decide +kernel
theorem dX4_init_13 : decode cX4_init 13 = .ok (.bipush 20, 2) := by decide +kernel
theorem dX4_init_15 : decode cX4_init 15 = .ok (.newarray .double, 2) := by decide +kernel
theorem dX4_init_17 : decode cX4_init 17 = .ok (.putfield 15, 3) := by decide +kernel
theorem dX4_init_20 : decode cX4_init 20 = .ok (.return_, 1) := by decide +kernel
theorem dX4_start_0 : decode cX4_start 0 = .ok (.aload_n 0, 1) := by decide +kernel
theorem dX4_start_1 : decode cX4_start 1 = .ok (.iload_n 1, 1) := by decide +kernel
theorem dX4_start_2 : decode cX4_start 2 = .ok (.bipush 20, 2) := by decide +kernel
theorem dX4_start_4 : decode cX4_start 4 = .ok (.invokestatic 19, 3) := by decide +kernel
theorem dX4_start_7 : decode cX4_start 7 = .ok (.putfield 25, 3) := by decide +kernel
theorem dX4_start_10 : decode cX4_start 10 = .ok (.aload_n 0, 1) := by decide +kernel
theorem dX4_start_11 : decode cX4_start 11 = .ok (.iconst 0, 1) := by decide +kernel
theorem dX4_start_12 : decode cX4_start 12 = .ok (.putfield 29, 3) := by decide +kernel
theorem dX4_start_15 : decode cX4_start 15 = .ok (.return_, 1) := by decide +kernel
theorem dX4_size_0 : decode cX4_size 0 = .ok (.aload_n 0, 1) := by decide +kernel
theorem dX4_size_1 : decode cX4_size 1 = .ok (.getfield 29, 3) := by decide +kernel
theorem dX4_size_4 : decode cX4_size 4 = .ok (.ireturn, 1) := by decide +kernel
theorem dX4_holdsPlace_0 : decode cX4_holdsPlace 0 = .ok (.iload_n 1, 1) := by decide +kernel
theorem dX4_holdsPlace_1 : decode cX4_holdsPlace 1 = .ok (.ifCond .lt 15, 3) := by decide +kernel
theorem dX4_holdsPlace_4 : decode cX4_holdsPlace 4 = .ok (.iload_n 1, 1) := by decide +kernel
theorem dX4_holdsPlace_5 : decode cX4_holdsPlace 5 = .ok (.aload_n 0, 1) := by decide +kernel
theorem dX4_holdsPlace_6 : decode cX4_holdsPlace 6 = .ok (.getfield 29, 3) := by decide +kernel
theorem dX4_holdsPlace_9 : decode cX4_holdsPlace 9 = .ok (.if_icmp .ge 7, 3) := by decide +kernel
theorem dX4_holdsPlace_12 : decode cX4_holdsPlace 12 = .ok (.iconst 1, 1) := by decide +kernel
theorem dX4_holdsPlace_13 : decode cX4_holdsPlace 13 = .ok (.goto 4, 3) := by decide +kernel
theorem dX4_holdsPlace_16 : decode cX4_holdsPlace 16 = .ok (.iconst 0, 1) := by decide +kernel
theorem dX4_holdsPlace_17 : decode cX4_holdsPlace 17 = .ok (.ireturn, 1) := by decide +kernel
theorem dX4_documentAt_0 : decode cX4_documentAt 0 = .ok (.aload_n 0, 1) := by decide +kernel
theorem dX4_documentAt_1 : decode cX4_documentAt 1 = .ok (.getfield 9, 3) := by decide +kernel
theorem dX4_documentAt_4 : decode cX4_documentAt 4 = .ok (.iload_n 1, 1) := by decide +kernel
theorem dX4_documentAt_5 : decode cX4_documentAt 5 = .ok (.iaload, 1) := by decide +kernel
theorem dX4_documentAt_6 : decode cX4_documentAt 6 = .ok (.ireturn, 1) := by decide +kernel
theorem dX4_scoreAt_0 : decode cX4_scoreAt 0 = .ok (.aload_n 0, 1) := by decide +kernel
theorem dX4_scoreAt_1 : decode cX4_scoreAt 1 = .ok (.getfield 15, 3) := by decide +kernel
theorem dX4_scoreAt_4 : decode cX4_scoreAt 4 = .ok (.iload_n 1, 1) := by decide +kernel
theorem dX4_scoreAt_5 : decode cX4_scoreAt 5 = .ok (.daload, 1) := by decide +kernel
theorem dX4_scoreAt_6 : decode cX4_scoreAt 6 = .ok (.dreturn, 1) := by decide +kernel
theorem dX4_shutsOut_0 : decode cX4_shutsOut 0 = .ok (.aload_n 0, 1) := by decide +kernel
theorem dX4_shutsOut_1 : decode cX4_shutsOut 1 = .ok (.getfield 29, 3) := by decide +kernel
theorem dX4_shutsOut_4 : decode cX4_shutsOut 4 = .ok (.aload_n 0, 1) := by decide +kernel
theorem dX4_shutsOut_5 : decode cX4_shutsOut 5 = .ok (.getfield 25, 3) := by decide +kernel
theorem dX4_shutsOut_8 : decode cX4_shutsOut 8 = .ok (.if_icmp .ge 5, 3) := by decide +kernel
theorem dX4_shutsOut_11 : decode cX4_shutsOut 11 = .ok (.iconst 0, 1) := by decide +kernel
theorem dX4_shutsOut_12 : decode cX4_shutsOut 12 = .ok (.ireturn, 1) := by decide +kernel
theorem dX4_shutsOut_13 : decode cX4_shutsOut 13 = .ok (.aload_n 0, 1) := by decide +kernel
theorem dX4_shutsOut_14 : decode cX4_shutsOut 14 = .ok (.getfield 29, 3) := by decide +kernel
theorem dX4_shutsOut_17 : decode cX4_shutsOut 17 = .ok (.ifCond .eq 19, 3) := by decide +kernel
theorem dX4_shutsOut_20 : decode cX4_shutsOut 20 = .ok (.dload_n 1, 1) := by decide +kernel
theorem dX4_shutsOut_21 : decode cX4_shutsOut 21 = .ok (.aload_n 0, 1) := by decide +kernel
theorem dX4_shutsOut_22 : decode cX4_shutsOut 22 = .ok (.getfield 15, 3) := by decide +kernel
theorem dX4_shutsOut_25 : decode cX4_shutsOut 25 = .ok (.aload_n 0, 1) := by decide +kernel
theorem dX4_shutsOut_26 : decode cX4_shutsOut 26 = .ok (.getfield 29, 3) := by decide +kernel
theorem dX4_shutsOut_29 : decode cX4_shutsOut 29 = .ok (.iconst 1, 1) := by decide +kernel
theorem dX4_shutsOut_30 : decode cX4_shutsOut 30 = .ok (.isub, 1) := by decide +kernel
theorem dX4_shutsOut_31 : decode cX4_shutsOut 31 = .ok (.daload, 1) := by decide +kernel
theorem dX4_shutsOut_32 : decode cX4_shutsOut 32 = .ok (.dcmp .l, 1) := by decide +kernel
theorem dX4_shutsOut_33 : decode cX4_shutsOut 33 = .ok (.ifCond .gt 7, 3) := by decide +kernel
theorem dX4_shutsOut_36 : decode cX4_shutsOut 36 = .ok (.iconst 1, 1) := by decide +kernel
theorem dX4_shutsOut_37 : decode cX4_shutsOut 37 = .ok (.goto 4, 3) := by decide +kernel
theorem dX4_shutsOut_40 : decode cX4_shutsOut 40 = .ok (.iconst 0, 1) := by decide +kernel
theorem dX4_shutsOut_41 : decode cX4_shutsOut 41 = .ok (.ireturn, 1) := by decide +kernel
theorem dX4_offer_0 : decode cX4_offer 0 = .ok (.aload_n 0, 1) := by decide +kernel
theorem dX4_offer_1 : decode cX4_offer 1 = .ok (.getfield 29, 3) := by decide +kernel
theorem dX4_offer_4 : decode cX4_offer 4 = .ok (.istore 4, 2) := by decide +kernel
theorem dX4_offer_6 : decode cX4_offer 6 = .ok (.iload 4, 2) := by decide +kernel
theorem dX4_offer_8 : decode cX4_offer 8 = .ok (.ifCond .le 22, 3) := by decide +kernel
theorem dX4_offer_11 : decode cX4_offer 11 = .ok (.aload_n 0, 1) := by decide +kernel
theorem dX4_offer_12 : decode cX4_offer 12 = .ok (.iload_n 1, 1) := by decide +kernel
theorem dX4_offer_13 : decode cX4_offer 13 = .ok (.dload_n 2, 1) := by decide +kernel
theorem dX4_offer_14 : decode cX4_offer 14 = .ok (.iload 4, 2) := by decide +kernel
theorem dX4_offer_16 : decode cX4_offer 16 = .ok (.iconst 1, 1) := by decide +kernel
theorem dX4_offer_17 : decode cX4_offer 17 = .ok (.isub, 1) := by decide +kernel
theorem dX4_offer_18 : decode cX4_offer 18 = .ok (.invokevirtual 32, 3) := by decide +kernel
theorem dX4_offer_21 : decode cX4_offer 21 = .ok (.ifCond .eq 9, 3) := by decide +kernel
theorem dX4_offer_24 : decode cX4_offer 24 = .ok (.iinc 4 (-1), 3) := by decide +kernel
theorem dX4_offer_27 : decode cX4_offer 27 = .ok (.goto (-21), 3) := by decide +kernel
theorem dX4_offer_30 : decode cX4_offer 30 = .ok (.iload 4, 2) := by decide +kernel
theorem dX4_offer_32 : decode cX4_offer 32 = .ok (.aload_n 0, 1) := by decide +kernel
theorem dX4_offer_33 : decode cX4_offer 33 = .ok (.getfield 25, 3) := by decide +kernel
theorem dX4_offer_36 : decode cX4_offer 36 = .ok (.if_icmp .lt 4, 3) := by decide +kernel
theorem dX4_offer_39 : decode cX4_offer 39 = .ok (.return_, 1) := by decide +kernel
theorem dX4_offer_40 : decode cX4_offer 40 = .ok (.aload_n 0, 1) := by decide +kernel
theorem dX4_offer_41 : decode cX4_offer 41 = .ok (.getfield 29, 3) := by decide +kernel
theorem dX4_offer_44 : decode cX4_offer 44 = .ok (.aload_n 0, 1) := by decide +kernel
theorem dX4_offer_45 : decode cX4_offer 45 = .ok (.getfield 25, 3) := by decide +kernel
theorem dX4_offer_48 : decode cX4_offer 48 = .ok (.if_icmp .ge 13, 3) := by decide +kernel
theorem dX4_offer_51 : decode cX4_offer 51 = .ok (.aload_n 0, 1) := by decide +kernel
theorem dX4_offer_52 : decode cX4_offer 52 = .ok (.dup, 1) := by decide +kernel
theorem dX4_offer_53 : decode cX4_offer 53 = .ok (.getfield 29, 3) := by decide +kernel
theorem dX4_offer_56 : decode cX4_offer 56 = .ok (.iconst 1, 1) := by decide +kernel
theorem dX4_offer_57 : decode cX4_offer 57 = .ok (.iadd, 1) := by decide +kernel
theorem dX4_offer_58 : decode cX4_offer 58 = .ok (.putfield 29, 3) := by decide +kernel
theorem dX4_offer_61 : decode cX4_offer 61 = .ok (.aload_n 0, 1) := by decide +kernel
theorem dX4_offer_62 : decode cX4_offer 62 = .ok (.getfield 29, 3) := by decide +kernel
theorem dX4_offer_65 : decode cX4_offer 65 = .ok (.iconst 1, 1) := by decide +kernel
theorem dX4_offer_66 : decode cX4_offer 66 = .ok (.isub, 1) := by decide +kernel
theorem dX4_offer_67 : decode cX4_offer 67 = .ok (.istore 5, 2) := by decide +kernel
theorem dX4_offer_69 : decode cX4_offer 69 = .ok (.iload 5, 2) := by decide +kernel
theorem dX4_offer_71 : decode cX4_offer 71 = .ok (.iload 4, 2) := by decide +kernel
theorem dX4_offer_73 : decode cX4_offer 73 = .ok (.if_icmp .le 41, 3) := by decide +kernel
theorem dX4_offer_76 : decode cX4_offer 76 = .ok (.aload_n 0, 1) := by decide +kernel
theorem dX4_offer_77 : decode cX4_offer 77 = .ok (.getfield 9, 3) := by decide +kernel
theorem dX4_offer_80 : decode cX4_offer 80 = .ok (.iload 5, 2) := by decide +kernel
theorem dX4_offer_82 : decode cX4_offer 82 = .ok (.aload_n 0, 1) := by decide +kernel
theorem dX4_offer_83 : decode cX4_offer 83 = .ok (.getfield 9, 3) := by decide +kernel
theorem dX4_offer_86 : decode cX4_offer 86 = .ok (.iload 5, 2) := by decide +kernel
theorem dX4_offer_88 : decode cX4_offer 88 = .ok (.iconst 1, 1) := by decide +kernel
theorem dX4_offer_89 : decode cX4_offer 89 = .ok (.isub, 1) := by decide +kernel
theorem dX4_offer_90 : decode cX4_offer 90 = .ok (.iaload, 1) := by decide +kernel
theorem dX4_offer_91 : decode cX4_offer 91 = .ok (.iastore, 1) := by decide +kernel
theorem dX4_offer_92 : decode cX4_offer 92 = .ok (.aload_n 0, 1) := by decide +kernel
theorem dX4_offer_93 : decode cX4_offer 93 = .ok (.getfield 15, 3) := by decide +kernel
theorem dX4_offer_96 : decode cX4_offer 96 = .ok (.iload 5, 2) := by decide +kernel
theorem dX4_offer_98 : decode cX4_offer 98 = .ok (.aload_n 0, 1) := by decide +kernel
theorem dX4_offer_99 : decode cX4_offer 99 = .ok (.getfield 15, 3) := by decide +kernel
theorem dX4_offer_102 : decode cX4_offer 102 = .ok (.iload 5, 2) := by decide +kernel
theorem dX4_offer_104 : decode cX4_offer 104 = .ok (.iconst 1, 1) := by decide +kernel
theorem dX4_offer_105 : decode cX4_offer 105 = .ok (.isub, 1) := by decide +kernel
theorem dX4_offer_106 : decode cX4_offer 106 = .ok (.daload, 1) := by decide +kernel
theorem dX4_offer_107 : decode cX4_offer 107 = .ok (.dastore, 1) := by decide +kernel
theorem dX4_offer_108 : decode cX4_offer 108 = .ok (.iinc 5 (-1), 3) := by decide +kernel
theorem dX4_offer_111 : decode cX4_offer 111 = .ok (.goto (-42), 3) := by decide +kernel
theorem dX4_offer_114 : decode cX4_offer 114 = .ok (.aload_n 0, 1) := by decide +kernel
theorem dX4_offer_115 : decode cX4_offer 115 = .ok (.getfield 9, 3) := by decide +kernel
theorem dX4_offer_118 : decode cX4_offer 118 = .ok (.iload 4, 2) := by decide +kernel
theorem dX4_offer_120 : decode cX4_offer 120 = .ok (.iload_n 1, 1) := by decide +kernel
theorem dX4_offer_121 : decode cX4_offer 121 = .ok (.iastore, 1) := by decide +kernel
theorem dX4_offer_122 : decode cX4_offer 122 = .ok (.aload_n 0, 1) := by decide +kernel
theorem dX4_offer_123 : decode cX4_offer 123 = .ok (.getfield 15, 3) := by decide +kernel
theorem dX4_offer_126 : decode cX4_offer 126 = .ok (.iload 4, 2) := by decide +kernel
theorem dX4_offer_128 : decode cX4_offer 128 = .ok (.dload_n 2, 1) := by decide +kernel
theorem dX4_offer_129 : decode cX4_offer 129 = .ok (.dastore, 1) := by decide +kernel
theorem dX4_offer_130 : decode cX4_offer 130 = .ok (.return_, 1) := by decide +kernel
theorem dX4_isBefore_0 : decode cX4_isBefore 0 = .ok (.dload_n 2, 1) := by decide +kernel
theorem dX4_isBefore_1 : decode cX4_isBefore 1 = .ok (.aload_n 0, 1) := by decide +kernel
theorem dX4_isBefore_2 : decode cX4_isBefore 2 = .ok (.getfield 15, 3) := by decide +kernel
theorem dX4_isBefore_5 : decode cX4_isBefore 5 = .ok (.iload 4, 2) := by decide +kernel
theorem dX4_isBefore_7 : decode cX4_isBefore 7 = .ok (.daload, 1) := by decide +kernel
theorem dX4_isBefore_8 : decode cX4_isBefore 8 = .ok (.dcmp .l, 1) := by decide +kernel
theorem dX4_isBefore_9 : decode cX4_isBefore 9 = .ok (.ifCond .gt 26, 3) := by decide +kernel
theorem dX4_isBefore_12 : decode cX4_isBefore 12 = .ok (.dload_n 2, 1) := by decide +kernel
theorem dX4_isBefore_13 : decode cX4_isBefore 13 = .ok (.aload_n 0, 1) := by decide +kernel
theorem dX4_isBefore_14 : decode cX4_isBefore 14 = .ok (.getfield 15, 3) := by decide +kernel
theorem dX4_isBefore_17 : decode cX4_isBefore 17 = .ok (.iload 4, 2) := by decide +kernel
theorem dX4_isBefore_19 : decode cX4_isBefore 19 = .ok (.daload, 1) := by decide +kernel
theorem dX4_isBefore_20 : decode cX4_isBefore 20 = .ok (.dcmp .l, 1) := by decide +kernel
theorem dX4_isBefore_21 : decode cX4_isBefore 21 = .ok (.ifCond .ne 18, 3) := by decide +kernel
theorem dX4_isBefore_24 : decode cX4_isBefore 24 = .ok (.iload_n 1, 1) := by decide +kernel
theorem dX4_isBefore_25 : decode cX4_isBefore 25 = .ok (.aload_n 0, 1) := by decide +kernel
theorem dX4_isBefore_26 : decode cX4_isBefore 26 = .ok (.getfield 9, 3) := by decide +kernel
theorem dX4_isBefore_29 : decode cX4_isBefore 29 = .ok (.iload 4, 2) := by decide +kernel
theorem dX4_isBefore_31 : decode cX4_isBefore 31 = .ok (.iaload, 1) := by decide +kernel
theorem dX4_isBefore_32 : decode cX4_isBefore 32 = .ok (.if_icmp .ge 7, 3) := by decide +kernel
theorem dX4_isBefore_35 : decode cX4_isBefore 35 = .ok (.iconst 1, 1) := by decide +kernel
theorem dX4_isBefore_36 : decode cX4_isBefore 36 = .ok (.goto 4, 3) := by decide +kernel
theorem dX4_isBefore_39 : decode cX4_isBefore 39 = .ok (.iconst 0, 1) := by decide +kernel
theorem dX4_isBefore_40 : decode cX4_isBefore 40 = .ok (.ireturn, 1) := by decide +kernel
theorem dX4_offerAll_0 : decode cX4_offerAll 0 = .ok (.iconst 0, 1) := by decide +kernel
theorem dX4_offerAll_1 : decode cX4_offerAll 1 = .ok (.istore_n 2, 1) := by decide +kernel
theorem dX4_offerAll_2 : decode cX4_offerAll 2 = .ok (.iload_n 2, 1) := by decide +kernel
theorem dX4_offerAll_3 : decode cX4_offerAll 3 = .ok (.aload_n 1, 1) := by decide +kernel
theorem dX4_offerAll_4 : decode cX4_offerAll 4 = .ok (.getfield 29, 3) := by decide +kernel
theorem dX4_offerAll_7 : decode cX4_offerAll 7 = .ok (.if_icmp .ge 25, 3) := by decide +kernel
theorem dX4_offerAll_10 : decode cX4_offerAll 10 = .ok (.aload_n 0, 1) := by decide +kernel
theorem dX4_offerAll_11 : decode cX4_offerAll 11 = .ok (.aload_n 1, 1) := by decide +kernel
theorem dX4_offerAll_12 : decode cX4_offerAll 12 = .ok (.getfield 9, 3) := by decide +kernel
theorem dX4_offerAll_15 : decode cX4_offerAll 15 = .ok (.iload_n 2, 1) := by decide +kernel
theorem dX4_offerAll_16 : decode cX4_offerAll 16 = .ok (.iaload, 1) := by decide +kernel
theorem dX4_offerAll_17 : decode cX4_offerAll 17 = .ok (.aload_n 1, 1) := by decide +kernel
theorem dX4_offerAll_18 : decode cX4_offerAll 18 = .ok (.getfield 15, 3) := by decide +kernel
theorem dX4_offerAll_21 : decode cX4_offerAll 21 = .ok (.iload_n 2, 1) := by decide +kernel
theorem dX4_offerAll_22 : decode cX4_offerAll 22 = .ok (.daload, 1) := by decide +kernel
theorem dX4_offerAll_23 : decode cX4_offerAll 23 = .ok (.invokevirtual 36, 3) := by decide +kernel
theorem dX4_offerAll_26 : decode cX4_offerAll 26 = .ok (.iinc 2 1, 3) := by decide +kernel
theorem dX4_offerAll_29 : decode cX4_offerAll 29 = .ok (.goto (-27), 3) := by decide +kernel
theorem dX4_offerAll_32 : decode cX4_offerAll 32 = .ok (.return_, 1) := by decide +kernel
theorem dX5_init_0 : decode cX5_init 0 = .ok (.aload_n 0, 1) := by decide +kernel
theorem dX5_init_1 : decode cX5_init 1 = .ok (.invokespecial 1, 3) := by decide +kernel
theorem dX5_init_4 : decode cX5_init 4 = .ok (.return_, 1) := by decide +kernel
theorem dX6_init_0 : decode cX6_init 0 = .ok (.aload_n 0, 1) := by decide +kernel
theorem dX6_init_1 : decode cX6_init 1 = .ok (.invokespecial 3, 3) := by decide +kernel
theorem dX6_init_4 : decode cX6_init 4 = .ok (.aload_n 0, 1) := by decide +kernel
theorem dX6_init_5 : decode cX6_init 5 = .ok (.iconst 4, 1) := by decide +kernel
theorem dX6_init_6 : decode cX6_init 6 = .ok (.newarray .int, 2) := by decide +kernel
theorem dX6_init_8 : decode cX6_init 8 = .ok (.putfield 9, 3) := by decide +kernel
theorem dX6_init_11 : decode cX6_init 11 = .ok (.aload_n 0, 1) := by decide +kernel
theorem dX6_init_12 : decode cX6_init 12 = .ok (.iconst 4, 1) := by decide +kernel
theorem dX6_init_13 : decode cX6_init 13 = .ok (.newarray .int, 2) := by decide +kernel
theorem dX6_init_15 : decode cX6_init 15 = .ok (.putfield 15, 3) := by decide +kernel
theorem dX6_init_18 : decode cX6_init 18 = .ok (.return_, 1) := by decide +kernel
theorem dX6_size_0 : decode cX6_size 0 = .ok (.aload_n 0, 1) := by decide +kernel
theorem dX6_size_1 : decode cX6_size 1 = .ok (.getfield 18, 3) := by decide +kernel
theorem dX6_size_4 : decode cX6_size 4 = .ok (.ireturn, 1) := by decide +kernel
theorem dX6_isFull_0 : decode cX6_isFull 0 = .ok (.aload_n 0, 1) := by decide +kernel
theorem dX6_isFull_1 : decode cX6_isFull 1 = .ok (.getfield 18, 3) := by decide +kernel
theorem dX6_isFull_4 : decode cX6_isFull 4 = .ok (.iconst 4, 1) := by decide +kernel
theorem dX6_isFull_5 : decode cX6_isFull 5 = .ok (.if_icmp .lt 7, 3) := by decide +kernel
theorem dX6_isFull_8 : decode cX6_isFull 8 = .ok (.iconst 1, 1) := by decide +kernel
theorem dX6_isFull_9 : decode cX6_isFull 9 = .ok (.goto 4, 3) := by decide +kernel
theorem dX6_isFull_12 : decode cX6_isFull 12 = .ok (.iconst 0, 1) := by decide +kernel
theorem dX6_isFull_13 : decode cX6_isFull 13 = .ok (.ireturn, 1) := by decide +kernel
theorem dX6_empty_0 : decode cX6_empty 0 = .ok (.aload_n 0, 1) := by decide +kernel
theorem dX6_empty_1 : decode cX6_empty 1 = .ok (.iconst 0, 1) := by decide +kernel
theorem dX6_empty_2 : decode cX6_empty 2 = .ok (.putfield 18, 3) := by decide +kernel
theorem dX6_empty_5 : decode cX6_empty 5 = .ok (.return_, 1) := by decide +kernel
theorem dX6_holds_0 : decode cX6_holds 0 = .ok (.iconst 0, 1) := by decide +kernel
theorem dX6_holds_1 : decode cX6_holds 1 = .ok (.istore_n 2, 1) := by decide +kernel
theorem dX6_holds_2 : decode cX6_holds 2 = .ok (.iload_n 2, 1) := by decide +kernel
theorem dX6_holds_3 : decode cX6_holds 3 = .ok (.aload_n 0, 1) := by decide +kernel
theorem dX6_holds_4 : decode cX6_holds 4 = .ok (.getfield 18, 3) := by decide +kernel
theorem dX6_holds_7 : decode cX6_holds 7 = .ok (.if_icmp .ge 21, 3) := by decide +kernel
theorem dX6_holds_10 : decode cX6_holds 10 = .ok (.aload_n 0, 1) := by decide +kernel
theorem dX6_holds_11 : decode cX6_holds 11 = .ok (.getfield 9, 3) := by decide +kernel
theorem dX6_holds_14 : decode cX6_holds 14 = .ok (.iload_n 2, 1) := by decide +kernel
theorem dX6_holds_15 : decode cX6_holds 15 = .ok (.iaload, 1) := by decide +kernel
theorem dX6_holds_16 : decode cX6_holds 16 = .ok (.iload_n 1, 1) := by decide +kernel
theorem dX6_holds_17 : decode cX6_holds 17 = .ok (.if_icmp .ne 5, 3) := by decide +kernel
theorem dX6_holds_20 : decode cX6_holds 20 = .ok (.iconst 1, 1) := by decide +kernel
theorem dX6_holds_21 : decode cX6_holds 21 = .ok (.ireturn, 1) := by decide +kernel
theorem dX6_holds_22 : decode cX6_holds 22 = .ok (.iinc 2 1, 3) := by decide +kernel
theorem dX6_holds_25 : decode cX6_holds 25 = .ok (.goto (-23), 3) := by decide +kernel
theorem dX6_holds_28 : decode cX6_holds 28 = .ok (.iconst 0, 1) := by decide +kernel
theorem dX6_holds_29 : decode cX6_holds 29 = .ok (.ireturn, 1) := by decide +kernel
theorem dX6_add_0 : decode cX6_add 0 = .ok (.aload_n 0, 1) := by decide +kernel
theorem dX6_add_1 : decode cX6_add 1 = .ok (.getfield 18, 3) := by decide +kernel
theorem dX6_add_4 : decode cX6_add 4 = .ok (.iconst 4, 1) := by decide +kernel
theorem dX6_add_5 : decode cX6_add 5 = .ok (.if_icmp .ge 33, 3) := by decide +kernel
theorem dX6_add_8 : decode cX6_add 8 = .ok (.aload_n 0, 1) := by decide +kernel
theorem dX6_add_9 : decode cX6_add 9 = .ok (.getfield 9, 3) := by decide +kernel
theorem dX6_add_12 : decode cX6_add 12 = .ok (.aload_n 0, 1) := by decide +kernel
theorem dX6_add_13 : decode cX6_add 13 = .ok (.getfield 18, 3) := by decide +kernel
theorem dX6_add_16 : decode cX6_add 16 = .ok (.iload_n 1, 1) := by decide +kernel
theorem dX6_add_17 : decode cX6_add 17 = .ok (.iastore, 1) := by decide +kernel
theorem dX6_add_18 : decode cX6_add 18 = .ok (.aload_n 0, 1) := by decide +kernel
theorem dX6_add_19 : decode cX6_add 19 = .ok (.getfield 15, 3) := by decide +kernel
theorem dX6_add_22 : decode cX6_add 22 = .ok (.aload_n 0, 1) := by decide +kernel
theorem dX6_add_23 : decode cX6_add 23 = .ok (.getfield 18, 3) := by decide +kernel
theorem dX6_add_26 : decode cX6_add 26 = .ok (.iload_n 2, 1) := by decide +kernel
theorem dX6_add_27 : decode cX6_add 27 = .ok (.iastore, 1) := by decide +kernel
theorem dX6_add_28 : decode cX6_add 28 = .ok (.aload_n 0, 1) := by decide +kernel
theorem dX6_add_29 : decode cX6_add 29 = .ok (.dup, 1) := by decide +kernel
theorem dX6_add_30 : decode cX6_add 30 = .ok (.getfield 18, 3) := by decide +kernel
theorem dX6_add_33 : decode cX6_add 33 = .ok (.iconst 1, 1) := by decide +kernel
theorem dX6_add_34 : decode cX6_add 34 = .ok (.iadd, 1) := by decide +kernel
theorem dX6_add_35 : decode cX6_add 35 = .ok (.putfield 18, 3) := by decide +kernel
theorem dX6_add_38 : decode cX6_add 38 = .ok (.aload_n 0, 1) := by decide +kernel
theorem dX6_add_39 : decode cX6_add 39 = .ok (.getfield 18, 3) := by decide +kernel
theorem dX6_add_42 : decode cX6_add 42 = .ok (.ireturn, 1) := by decide +kernel
theorem dX6_termAt_0 : decode cX6_termAt 0 = .ok (.aload_n 0, 1) := by decide +kernel
theorem dX6_termAt_1 : decode cX6_termAt 1 = .ok (.getfield 9, 3) := by decide +kernel
theorem dX6_termAt_4 : decode cX6_termAt 4 = .ok (.iload_n 1, 1) := by decide +kernel
theorem dX6_termAt_5 : decode cX6_termAt 5 = .ok (.iaload, 1) := by decide +kernel
theorem dX6_termAt_6 : decode cX6_termAt 6 = .ok (.ireturn, 1) := by decide +kernel
theorem dX6_weightAt_0 : decode cX6_weightAt 0 = .ok (.aload_n 0, 1) := by decide +kernel
theorem dX6_weightAt_1 : decode cX6_weightAt 1 = .ok (.getfield 15, 3) := by decide +kernel
theorem dX6_weightAt_4 : decode cX6_weightAt 4 = .ok (.iload_n 1, 1) := by decide +kernel
theorem dX6_weightAt_5 : decode cX6_weightAt 5 = .ok (.iaload, 1) := by decide +kernel
theorem dX6_weightAt_6 : decode cX6_weightAt 6 = .ok (.ireturn, 1) := by decide +kernel
theorem dX7_init_0 : decode cX7_init 0 = .ok (.aload_n 0, 1) := by decide +kernel
theorem dX7_init_1 : decode cX7_init 1 = .ok (.invokespecial 3, 3) := by decide +kernel
theorem dX7_init_4 : decode cX7_init 4 = .ok (.aload_n 0, 1) := by decide +kernel
theorem dX7_init_5 : decode cX7_init 5 = .ok (.iload_n 1, 1) := by decide +kernel
theorem dX7_init_6 : decode cX7_init 6 = .ok (.iconst 0, 1) := by decide +kernel
theorem dX7_init_7 : decode cX7_init 7 = .ok (.invokestatic 9, 3) := by decide +kernel
theorem dX7_init_10 : decode cX7_init 10 = .ok (.putfield 15, 3) := by decide +kernel
theorem dX7_init_13 : decode cX7_init 13 = .ok (.aload_n 0, 1) := by decide +kernel
theorem dX7_init_14 : decode cX7_init 14 = .ok (.aload_n 0, 1) := by decide +kernel
theorem dX7_init_15 : decode cX7_init 15 = .ok (.getfield 15, 3) := by decide +kernel
theorem dX7_init_18 : decode cX7_init 18 = .ok (.iconst 4, 1) := by decide +kernel
theorem dX7_init_19 : decode cX7_init 19 = .ok (.imul, 1) := by decide +kernel
theorem dX7_init_20 : decode cX7_init 20 = .ok (.newarray .float, 2) := by decide +kernel
theorem dX7_init_22 : decode cX7_init 22 = .ok (.putfield 21, 3) := by decide +kernel
theorem dX7_init_25 : decode cX7_init 25 = .ok (.return_, 1) := by decide +kernel
theorem dX7_size_0 : decode cX7_size 0 = .ok (.aload_n 0, 1) := by decide +kernel
theorem dX7_size_1 : decode cX7_size 1 = .ok (.getfield 25, 3) := by decide +kernel
theorem dX7_size_4 : decode cX7_size 4 = .ok (.ireturn, 1) := by decide +kernel
theorem dX7_isFull_0 : decode cX7_isFull 0 = .ok (.aload_n 0, 1) := by decide +kernel
theorem dX7_isFull_1 : decode cX7_isFull 1 = .ok (.getfield 25, 3) := by decide +kernel
theorem dX7_isFull_4 : decode cX7_isFull 4 = .ok (.aload_n 0, 1) := by decide +kernel
theorem dX7_isFull_5 : decode cX7_isFull 5 = .ok (.getfield 15, 3) := by decide +kernel
theorem dX7_isFull_8 : decode cX7_isFull 8 = .ok (.if_icmp .lt 7, 3) := by decide +kernel
theorem dX7_isFull_11 : decode cX7_isFull 11 = .ok (.iconst 1, 1) := by decide +kernel
theorem dX7_isFull_12 : decode cX7_isFull 12 = .ok (.goto 4, 3) := by decide +kernel
theorem dX7_isFull_15 : decode cX7_isFull 15 = .ok (.iconst 0, 1) := by decide +kernel
theorem dX7_isFull_16 : decode cX7_isFull 16 = .ok (.ireturn, 1) := by decide +kernel
theorem dX7_empty_0 : decode cX7_empty 0 = .ok (.aload_n 0, 1) := by decide +kernel
theorem dX7_empty_1 : decode cX7_empty 1 = .ok (.iconst 0, 1) := by decide +kernel
theorem dX7_empty_2 : decode cX7_empty 2 = .ok (.putfield 25, 3) := by decide +kernel
theorem dX7_empty_5 : decode cX7_empty 5 = .ok (.return_, 1) := by decide +kernel
theorem dX7_add_0 : decode cX7_add 0 = .ok (.aload_n 0, 1) := by decide +kernel
theorem dX7_add_1 : decode cX7_add 1 = .ok (.getfield 25, 3) := by decide +kernel
theorem dX7_add_4 : decode cX7_add 4 = .ok (.aload_n 0, 1) := by decide +kernel
theorem dX7_add_5 : decode cX7_add 5 = .ok (.getfield 15, 3) := by decide +kernel
theorem dX7_add_8 : decode cX7_add 8 = .ok (.if_icmp .ge 60, 3) := by decide +kernel
theorem dX7_add_11 : decode cX7_add 11 = .ok (.aload_n 0, 1) := by decide +kernel
theorem dX7_add_12 : decode cX7_add 12 = .ok (.getfield 25, 3) := by decide +kernel
theorem dX7_add_15 : decode cX7_add 15 = .ok (.iconst 4, 1) := by decide +kernel
theorem dX7_add_16 : decode cX7_add 16 = .ok (.imul, 1) := by decide +kernel
theorem dX7_add_17 : decode cX7_add 17 = .ok (.istore 5, 2) := by decide +kernel
theorem dX7_add_19 : decode cX7_add 19 = .ok (.aload_n 0, 1) := by decide +kernel
theorem dX7_add_20 : decode cX7_add 20 = .ok (.getfield 21, 3) := by decide +kernel
theorem dX7_add_23 : decode cX7_add 23 = .ok (.iload 5, 2) := by decide +kernel
theorem dX7_add_25 : decode cX7_add 25 = .ok (.fload_n 1, 1) := by decide +kernel
theorem dX7_add_26 : decode cX7_add 26 = .ok (.fastore, 1) := by decide +kernel
theorem dX7_add_27 : decode cX7_add 27 = .ok (.aload_n 0, 1) := by decide +kernel
theorem dX7_add_28 : decode cX7_add 28 = .ok (.getfield 21, 3) := by decide +kernel
theorem dX7_add_31 : decode cX7_add 31 = .ok (.iload 5, 2) := by decide +kernel
theorem dX7_add_33 : decode cX7_add 33 = .ok (.iconst 1, 1) := by decide +kernel
theorem dX7_add_34 : decode cX7_add 34 = .ok (.iadd, 1) := by decide +kernel
theorem dX7_add_35 : decode cX7_add 35 = .ok (.fload_n 2, 1) := by decide +kernel
theorem dX7_add_36 : decode cX7_add 36 = .ok (.fastore, 1) := by decide +kernel
theorem dX7_add_37 : decode cX7_add 37 = .ok (.aload_n 0, 1) := by decide +kernel
theorem dX7_add_38 : decode cX7_add 38 = .ok (.getfield 21, 3) := by decide +kernel
theorem dX7_add_41 : decode cX7_add 41 = .ok (.iload 5, 2) := by decide +kernel
theorem dX7_add_43 : decode cX7_add 43 = .ok (.iconst 2, 1) := by decide +kernel
theorem dX7_add_44 : decode cX7_add 44 = .ok (.iadd, 1) := by decide +kernel
theorem dX7_add_45 : decode cX7_add 45 = .ok (.fload_n 3, 1) := by decide +kernel
theorem dX7_add_46 : decode cX7_add 46 = .ok (.fastore, 1) := by decide +kernel
theorem dX7_add_47 : decode cX7_add 47 = .ok (.aload_n 0, 1) := by decide +kernel
theorem dX7_add_48 : decode cX7_add 48 = .ok (.getfield 21, 3) := by decide +kernel
theorem dX7_add_51 : decode cX7_add 51 = .ok (.iload 5, 2) := by decide +kernel
theorem dX7_add_53 : decode cX7_add 53 = .ok (.iconst 3, 1) := by decide +kernel
theorem dX7_add_54 : decode cX7_add 54 = .ok (.iadd, 1) := by decide +kernel
theorem dX7_add_55 : decode cX7_add 55 = .ok (.fload 4, 2) := by decide +kernel
theorem dX7_add_57 : decode cX7_add 57 = .ok (.fastore, 1) := by decide +kernel
theorem dX7_add_58 : decode cX7_add 58 = .ok (.aload_n 0, 1) := by decide +kernel
theorem dX7_add_59 : decode cX7_add 59 = .ok (.dup, 1) := by decide +kernel
theorem dX7_add_60 : decode cX7_add 60 = .ok (.getfield 25, 3) := by decide +kernel
theorem dX7_add_63 : decode cX7_add 63 = .ok (.iconst 1, 1) := by decide +kernel
theorem dX7_add_64 : decode cX7_add 64 = .ok (.iadd, 1) := by decide +kernel
theorem dX7_add_65 : decode cX7_add 65 = .ok (.putfield 25, 3) := by decide +kernel
theorem dX7_add_68 : decode cX7_add 68 = .ok (.aload_n 0, 1) := by decide +kernel
theorem dX7_add_69 : decode cX7_add 69 = .ok (.getfield 25, 3) := by decide +kernel
theorem dX7_add_72 : decode cX7_add 72 = .ok (.ireturn, 1) := by decide +kernel
theorem dX7_product_0 : decode cX7_product 0 = .ok (.fconst 0, 1) := by decide +kernel
theorem dX7_product_1 : decode cX7_product 1 = .ok (.fstore 4, 2) := by decide +kernel
theorem dX7_product_3 : decode cX7_product 3 = .ok (.iconst 0, 1) := by decide +kernel
theorem dX7_product_4 : decode cX7_product 4 = .ok (.istore 5, 2) := by decide +kernel
theorem dX7_product_6 : decode cX7_product 6 = .ok (.iload 5, 2) := by decide +kernel
theorem dX7_product_8 : decode cX7_product 8 = .ok (.iconst 4, 1) := by decide +kernel
theorem dX7_product_9 : decode cX7_product 9 = .ok (.if_icmp .ge 37, 3) := by decide +kernel
theorem dX7_product_12 : decode cX7_product 12 = .ok (.fload 4, 2) := by decide +kernel
theorem dX7_product_14 : decode cX7_product 14 = .ok (.aload_n 0, 1) := by decide +kernel
theorem dX7_product_15 : decode cX7_product 15 = .ok (.getfield 21, 3) := by decide +kernel
theorem dX7_product_18 : decode cX7_product 18 = .ok (.iload_n 1, 1) := by decide +kernel
theorem dX7_product_19 : decode cX7_product 19 = .ok (.iconst 4, 1) := by decide +kernel
theorem dX7_product_20 : decode cX7_product 20 = .ok (.imul, 1) := by decide +kernel
theorem dX7_product_21 : decode cX7_product 21 = .ok (.iload 5, 2) := by decide +kernel
theorem dX7_product_23 : decode cX7_product 23 = .ok (.iadd, 1) := by decide +kernel
theorem dX7_product_24 : decode cX7_product 24 = .ok (.faload, 1) := by decide +kernel
theorem dX7_product_25 : decode cX7_product 25 = .ok (.aload_n 2, 1) := by decide +kernel
theorem dX7_product_26 : decode cX7_product 26 = .ok (.getfield 21, 3) := by decide +kernel
theorem dX7_product_29 : decode cX7_product 29 = .ok (.iload_n 3, 1) := by decide +kernel
theorem dX7_product_30 : decode cX7_product 30 = .ok (.iconst 4, 1) := by decide +kernel
theorem dX7_product_31 : decode cX7_product 31 = .ok (.imul, 1) := by decide +kernel
theorem dX7_product_32 : decode cX7_product 32 = .ok (.iload 5, 2) := by decide +kernel
theorem dX7_product_34 : decode cX7_product 34 = .ok (.iadd, 1) := by decide +kernel
theorem dX7_product_35 : decode cX7_product 35 = .ok (.faload, 1) := by decide +kernel
theorem dX7_product_36 : decode cX7_product 36 = .ok (.fmul, 1) := by decide +kernel
theorem dX7_product_37 : decode cX7_product 37 = .ok (.fadd, 1) := by decide +kernel
theorem dX7_product_38 : decode cX7_product 38 = .ok (.fstore 4, 2) := by decide +kernel
theorem dX7_product_40 : decode cX7_product 40 = .ok (.iinc 5 1, 3) := by decide +kernel
theorem dX7_product_43 : decode cX7_product 43 = .ok (.goto (-37), 3) := by decide +kernel
theorem dX7_product_46 : decode cX7_product 46 = .ok (.fload 4, 2) := by decide +kernel
theorem dX7_product_48 : decode cX7_product 48 = .ok (.freturn, 1) := by decide +kernel
theorem dX7_nearestIn_0 : decode cX7_nearestIn 0 = .ok (.iconst (-1), 1) := by decide +kernel
theorem dX7_nearestIn_1 : decode cX7_nearestIn 1 = .ok (.istore_n 3, 1) := by decide +kernel
theorem dX7_nearestIn_2 : decode cX7_nearestIn 2 = .ok (.fconst 0, 1) := by decide +kernel
theorem dX7_nearestIn_3 : decode cX7_nearestIn 3 = .ok (.fstore 4, 2) := by decide +kernel
theorem dX7_nearestIn_5 : decode cX7_nearestIn 5 = .ok (.iconst 0, 1) := by decide +kernel
theorem dX7_nearestIn_6 : decode cX7_nearestIn 6 = .ok (.istore 5, 2) := by decide +kernel
theorem dX7_nearestIn_8 : decode cX7_nearestIn 8 = .ok (.iload 5, 2) := by decide +kernel
theorem dX7_nearestIn_10 : decode cX7_nearestIn 10 = .ok (.aload_n 1, 1) := by decide +kernel
theorem dX7_nearestIn_11 : decode cX7_nearestIn 11 = .ok (.getfield 25, 3) := by decide +kernel
theorem dX7_nearestIn_14 : decode cX7_nearestIn 14 = .ok (.if_icmp .ge 38, 3) := by decide +kernel
theorem dX7_nearestIn_17 : decode cX7_nearestIn 17 = .ok (.aload_n 0, 1) := by decide +kernel
theorem dX7_nearestIn_18 : decode cX7_nearestIn 18 = .ok (.iload_n 2, 1) := by decide +kernel
theorem dX7_nearestIn_19 : decode cX7_nearestIn 19 = .ok (.aload_n 1, 1) := by decide +kernel
theorem dX7_nearestIn_20 : decode cX7_nearestIn 20 = .ok (.iload 5, 2) := by decide +kernel
theorem dX7_nearestIn_22 : decode cX7_nearestIn 22 = .ok (.invokevirtual 28, 3) := by decide +kernel
theorem dX7_nearestIn_25 : decode cX7_nearestIn 25 = .ok (.fstore 6, 2) := by decide +kernel
theorem dX7_nearestIn_27 : decode cX7_nearestIn 27 = .ok (.iload_n 3, 1) := by decide +kernel
theorem dX7_nearestIn_28 : decode cX7_nearestIn 28 = .ok (.ifCond .lt 11, 3) := by decide +kernel
theorem dX7_nearestIn_31 : decode cX7_nearestIn 31 = .ok (.fload 6, 2) := by decide +kernel
theorem dX7_nearestIn_33 : decode cX7_nearestIn 33 = .ok (.fload 4, 2) := by decide +kernel
theorem dX7_nearestIn_35 : decode cX7_nearestIn 35 = .ok (.fcmp .l, 1) := by decide +kernel
theorem dX7_nearestIn_36 : decode cX7_nearestIn 36 = .ok (.ifCond .le 10, 3) := by decide +kernel
theorem dX7_nearestIn_39 : decode cX7_nearestIn 39 = .ok (.iload 5, 2) := by decide +kernel
theorem dX7_nearestIn_41 : decode cX7_nearestIn 41 = .ok (.istore_n 3, 1) := by decide +kernel
theorem dX7_nearestIn_42 : decode cX7_nearestIn 42 = .ok (.fload 6, 2) := by decide +kernel
theorem dX7_nearestIn_44 : decode cX7_nearestIn 44 = .ok (.fstore 4, 2) := by decide +kernel
theorem dX7_nearestIn_46 : decode cX7_nearestIn 46 = .ok (.iinc 5 1, 3) := by decide +kernel
theorem dX7_nearestIn_49 : decode cX7_nearestIn 49 = .ok (.goto (-41), 3) := by decide +kernel
theorem dX7_nearestIn_52 : decode cX7_nearestIn 52 = .ok (.iload_n 3, 1) := by decide +kernel
theorem dX7_nearestIn_53 : decode cX7_nearestIn 53 = .ok (.ireturn, 1) := by decide +kernel
theorem dX8_init_0 : decode cX8_init 0 = .ok (.aload_n 0, 1) := by decide +kernel
theorem dX8_init_1 : decode cX8_init 1 = .ok (.invokespecial 3, 3) := by decide +kernel
theorem dX8_init_4 : decode cX8_init 4 = .ok (.aload_n 0, 1) := by decide +kernel
theorem dX8_init_5 : decode cX8_init 5 = .ok (.iconst 4, 1) := by decide +kernel
theorem dX8_init_6 : decode cX8_init 6 = .ok (.newarray .boolean, 2) := by decide +kernel
theorem dX8_init_8 : decode cX8_init 8 = .ok (.putfield 9, 3) := by decide +kernel
theorem dX8_init_11 : decode cX8_init 11 = .ok (.aload_n 0, 1) := by decide +kernel
theorem dX8_init_12 : decode cX8_init 12 = .ok (.aload_n 1, 1) := by decide +kernel
theorem dX8_init_13 : decode cX8_init 13 = .ok (.putfield 15, 3) := by decide +kernel
theorem dX8_init_16 : decode cX8_init 16 = .ok (.aload_n 0, 1) := by decide +kernel
theorem dX8_init_17 : decode cX8_init 17 = .ok (.aload_n 2, 1) := by decide +kernel
theorem dX8_init_18 : decode cX8_init 18 = .ok (.putfield 19, 3) := by decide +kernel
theorem dX8_init_21 : decode cX8_init 21 = .ok (.return_, 1) := by decide +kernel
theorem dX8_prepare_0 : decode cX8_prepare 0 = .ok (.aload_n 0, 1) := by decide +kernel
theorem dX8_prepare_1 : decode cX8_prepare 1 = .ok (.iload_n 1, 1) := by decide +kernel
theorem dX8_prepare_2 : decode cX8_prepare 2 = .ok (.putfield 23, 3) := by decide +kernel
theorem dX8_prepare_5 : decode cX8_prepare 5 = .ok (.iconst 0, 1) := by decide +kernel
theorem dX8_prepare_6 : decode cX8_prepare 6 = .ok (.istore_n 2, 1) := by decide +kernel
theorem dX8_prepare_7 : decode cX8_prepare 7 = .ok (.iload_n 2, 1) := by decide +kernel
theorem dX8_prepare_8 : decode cX8_prepare 8 = .ok (.iconst 4, 1) := by decide +kernel
theorem dX8_prepare_9 : decode cX8_prepare 9 = .ok (.if_icmp .ge 16, 3) := by decide +kernel
theorem dX8_prepare_12 : decode cX8_prepare 12 = .ok (.aload_n 0, 1) := by decide +kernel
theorem dX8_prepare_13 : decode cX8_prepare 13 = .ok (.getfield 9, 3) := by decide +kernel
theorem dX8_prepare_16 : decode cX8_prepare 16 = .ok (.iload_n 2, 1) := by decide +kernel
theorem dX8_prepare_17 : decode cX8_prepare 17 = .ok (.iconst 0, 1) := by decide +kernel
theorem dX8_prepare_18 : decode cX8_prepare 18 = .ok (.bastore, 1) := by decide +kernel
theorem dX8_prepare_19 : decode cX8_prepare 19 = .ok (.iinc 2 1, 3) := by decide +kernel
theorem dX8_prepare_22 : decode cX8_prepare 22 = .ok (.goto (-15), 3) := by decide +kernel
theorem dX8_prepare_25 : decode cX8_prepare 25 = .ok (.iconst 0, 1) := by decide +kernel
theorem dX8_prepare_26 : decode cX8_prepare 26 = .ok (.istore_n 2, 1) := by decide +kernel
theorem dX8_prepare_27 : decode cX8_prepare 27 = .ok (.iload_n 2, 1) := by decide +kernel
theorem dX8_prepare_28 : decode cX8_prepare 28 = .ok (.aload_n 0, 1) := by decide +kernel
theorem dX8_prepare_29 : decode cX8_prepare 29 = .ok (.getfield 19, 3) := by decide +kernel
theorem dX8_prepare_32 : decode cX8_prepare 32 = .ok (.invokevirtual 27, 3) := by decide +kernel
theorem dX8_prepare_35 : decode cX8_prepare 35 = .ok (.if_icmp .ge 36, 3) := by decide +kernel
theorem dX8_prepare_38 : decode cX8_prepare 38 = .ok (.aload_n 0, 1) := by decide +kernel
theorem dX8_prepare_39 : decode cX8_prepare 39 = .ok (.getfield 19, 3) := by decide +kernel
theorem dX8_prepare_42 : decode cX8_prepare 42 = .ok (.aload_n 0, 1) := by decide +kernel
theorem dX8_prepare_43 : decode cX8_prepare 43 = .ok (.getfield 15, 3) := by decide +kernel
theorem dX8_prepare_46 : decode cX8_prepare 46 = .ok (.invokevirtual 33, 3) := by decide +kernel
theorem dX8_prepare_49 : decode cX8_prepare 49 = .ok (.iload_n 2, 1) := by decide +kernel
theorem dX8_prepare_50 : decode cX8_prepare 50 = .ok (.invokevirtual 39, 3) := by decide +kernel
theorem dX8_prepare_53 : decode cX8_prepare 53 = .ok (.istore_n 3, 1) := by decide +kernel
theorem dX8_prepare_54 : decode cX8_prepare 54 = .ok (.iload_n 3, 1) := by decide +kernel
theorem dX8_prepare_55 : decode cX8_prepare 55 = .ok (.ifCond .lt 10, 3) := by decide +kernel
theorem dX8_prepare_58 : decode cX8_prepare 58 = .ok (.aload_n 0, 1) := by decide +kernel
theorem dX8_prepare_59 : decode cX8_prepare 59 = .ok (.getfield 9, 3) := by decide +kernel
theorem dX8_prepare_62 : decode cX8_prepare 62 = .ok (.iload_n 3, 1) := by decide +kernel
theorem dX8_prepare_63 : decode cX8_prepare 63 = .ok (.iconst 1, 1) := by decide +kernel
theorem dX8_prepare_64 : decode cX8_prepare 64 = .ok (.bastore, 1) := by decide +kernel
theorem dX8_prepare_65 : decode cX8_prepare 65 = .ok (.iinc 2 1, 3) := by decide +kernel
theorem dX8_prepare_68 : decode cX8_prepare 68 = .ok (.goto (-41), 3) := by decide +kernel
theorem dX8_prepare_71 : decode cX8_prepare 71 = .ok (.return_, 1) := by decide +kernel
theorem dX8_matches_0 : decode cX8_matches 0 = .ok (.aload_n 0, 1) := by decide +kernel
theorem dX8_matches_1 : decode cX8_matches 1 = .ok (.getfield 15, 3) := by decide +kernel
theorem dX8_matches_4 : decode cX8_matches 4 = .ok (.iload_n 1, 1) := by decide +kernel
theorem dX8_matches_5 : decode cX8_matches 5 = .ok (.invokevirtual 43, 3) := by decide +kernel
theorem dX8_matches_8 : decode cX8_matches 8 = .ok (.astore_n 2, 1) := by decide +kernel
theorem dX8_matches_9 : decode cX8_matches 9 = .ok (.aload_n 0, 1) := by decide +kernel
theorem dX8_matches_10 : decode cX8_matches 10 = .ok (.getfield 23, 3) := by decide +kernel
theorem dX8_matches_13 : decode cX8_matches 13 = .ok (.ifCond .eq 9, 3) := by decide +kernel
theorem dX8_matches_16 : decode cX8_matches 16 = .ok (.aload_n 0, 1) := by decide +kernel
theorem dX8_matches_17 : decode cX8_matches 17 = .ok (.aload_n 2, 1) := by decide +kernel
theorem dX8_matches_18 : decode cX8_matches 18 = .ok (.invokevirtual 47, 3) := by decide +kernel
theorem dX8_matches_21 : decode cX8_matches 21 = .ok (.ireturn, 1) := by decide +kernel
theorem dX8_matches_22 : decode cX8_matches 22 = .ok (.aload_n 2, 1) := by decide +kernel
theorem dX8_matches_23 : decode cX8_matches 23 = .ok (.invokevirtual 27, 3) := by decide +kernel
theorem dX8_matches_26 : decode cX8_matches 26 = .ok (.ifCond .le 17, 3) := by decide +kernel
theorem dX8_matches_29 : decode cX8_matches 29 = .ok (.aload_n 0, 1) := by decide +kernel
theorem dX8_matches_30 : decode cX8_matches 30 = .ok (.getfield 19, 3) := by decide +kernel
theorem dX8_matches_33 : decode cX8_matches 33 = .ok (.invokevirtual 27, 3) := by decide +kernel
theorem dX8_matches_36 : decode cX8_matches 36 = .ok (.ifCond .le 7, 3) := by decide +kernel
theorem dX8_matches_39 : decode cX8_matches 39 = .ok (.iconst 1, 1) := by decide +kernel
theorem dX8_matches_40 : decode cX8_matches 40 = .ok (.goto 4, 3) := by decide +kernel
theorem dX8_matches_43 : decode cX8_matches 43 = .ok (.iconst 0, 1) := by decide +kernel
theorem dX8_matches_44 : decode cX8_matches 44 = .ok (.ireturn, 1) := by decide +kernel
theorem dX8_isCandidate_0 : decode cX8_isCandidate 0 = .ok (.iconst 0, 1) := by decide +kernel
theorem dX8_isCandidate_1 : decode cX8_isCandidate 1 = .ok (.istore_n 2, 1) := by decide +kernel
theorem dX8_isCandidate_2 : decode cX8_isCandidate 2 = .ok (.iload_n 2, 1) := by decide +kernel
theorem dX8_isCandidate_3 : decode cX8_isCandidate 3 = .ok (.aload_n 1, 1) := by decide +kernel
theorem dX8_isCandidate_4 : decode cX8_isCandidate 4 = .ok (.invokevirtual 27, 3) := by decide +kernel
theorem dX8_isCandidate_7 : decode cX8_isCandidate 7 = .ok (.if_icmp .ge 37, 3) := by decide +kernel
theorem dX8_isCandidate_10 : decode cX8_isCandidate 10 = .ok (.aload_n 1, 1) := by decide +kernel
theorem dX8_isCandidate_11 : decode cX8_isCandidate 11 = .ok (.aload_n 0, 1) := by decide +kernel
theorem dX8_isCandidate_12 : decode cX8_isCandidate 12 = .ok (.getfield 15, 3) := by decide +kernel
theorem dX8_isCandidate_15 : decode cX8_isCandidate 15 = .ok (.invokevirtual 33, 3) := by decide +kernel
theorem dX8_isCandidate_18 : decode cX8_isCandidate 18 = .ok (.iload_n 2, 1) := by decide +kernel
theorem dX8_isCandidate_19 : decode cX8_isCandidate 19 = .ok (.invokevirtual 39, 3) := by decide +kernel
theorem dX8_isCandidate_22 : decode cX8_isCandidate 22 = .ok (.istore_n 3, 1) := by decide +kernel
theorem dX8_isCandidate_23 : decode cX8_isCandidate 23 = .ok (.iload_n 3, 1) := by decide +kernel
theorem dX8_isCandidate_24 : decode cX8_isCandidate 24 = .ok (.ifCond .lt 14, 3) := by decide +kernel
theorem dX8_isCandidate_27 : decode cX8_isCandidate 27 = .ok (.aload_n 0, 1) := by decide +kernel
theorem dX8_isCandidate_28 : decode cX8_isCandidate 28 = .ok (.getfield 9, 3) := by decide +kernel
theorem dX8_isCandidate_31 : decode cX8_isCandidate 31 = .ok (.iload_n 3, 1) := by decide +kernel
theorem dX8_isCandidate_32 : decode cX8_isCandidate 32 = .ok (.baload, 1) := by decide +kernel
theorem dX8_isCandidate_33 : decode cX8_isCandidate 33 = .ok (.ifCond .eq 5, 3) := by decide +kernel
theorem dX8_isCandidate_36 : decode cX8_isCandidate 36 = .ok (.iconst 1, 1) := by decide +kernel
theorem dX8_isCandidate_37 : decode cX8_isCandidate 37 = .ok (.ireturn, 1) := by decide +kernel
theorem dX8_isCandidate_38 : decode cX8_isCandidate 38 = .ok (.iinc 2 1, 3) := by decide +kernel
theorem dX8_isCandidate_41 : decode cX8_isCandidate 41 = .ok (.goto (-39), 3) := by decide +kernel
theorem dX8_isCandidate_44 : decode cX8_isCandidate 44 = .ok (.iconst 0, 1) := by decide +kernel
theorem dX8_isCandidate_45 : decode cX8_isCandidate 45 = .ok (.ireturn, 1) := by decide +kernel
theorem dX8_scoreOf_0 : decode cX8_scoreOf 0 = .ok (.aload_n 0, 1) := by decide +kernel
theorem dX8_scoreOf_1 : decode cX8_scoreOf 1 = .ok (.getfield 15, 3) := by decide +kernel
theorem dX8_scoreOf_4 : decode cX8_scoreOf 4 = .ok (.iload_n 1, 1) := by decide +kernel
theorem dX8_scoreOf_5 : decode cX8_scoreOf 5 = .ok (.invokevirtual 43, 3) := by decide +kernel
theorem dX8_scoreOf_8 : decode cX8_scoreOf 8 = .ok (.astore_n 2, 1) := by decide +kernel
theorem dX8_scoreOf_9 : decode cX8_scoreOf 9 = .ok (.fconst 0, 1) := by decide +kernel
theorem dX8_scoreOf_10 : decode cX8_scoreOf 10 = .ok (.fstore_n 3, 1) := by decide +kernel
theorem dX8_scoreOf_11 : decode cX8_scoreOf 11 = .ok (.iconst 0, 1) := by decide +kernel
theorem dX8_scoreOf_12 : decode cX8_scoreOf 12 = .ok (.istore 4, 2) := by decide +kernel
theorem dX8_scoreOf_14 : decode cX8_scoreOf 14 = .ok (.iload 4, 2) := by decide +kernel
theorem dX8_scoreOf_16 : decode cX8_scoreOf 16 = .ok (.aload_n 0, 1) := by decide +kernel
theorem dX8_scoreOf_17 : decode cX8_scoreOf 17 = .ok (.getfield 19, 3) := by decide +kernel
theorem dX8_scoreOf_20 : decode cX8_scoreOf 20 = .ok (.invokevirtual 27, 3) := by decide +kernel
theorem dX8_scoreOf_23 : decode cX8_scoreOf 23 = .ok (.if_icmp .ge 19, 3) := by decide +kernel
theorem dX8_scoreOf_26 : decode cX8_scoreOf 26 = .ok (.fload_n 3, 1) := by decide +kernel
theorem dX8_scoreOf_27 : decode cX8_scoreOf 27 = .ok (.aload_n 0, 1) := by decide +kernel
theorem dX8_scoreOf_28 : decode cX8_scoreOf 28 = .ok (.iload 4, 2) := by decide +kernel
theorem dX8_scoreOf_30 : decode cX8_scoreOf 30 = .ok (.aload_n 2, 1) := by decide +kernel
theorem dX8_scoreOf_31 : decode cX8_scoreOf 31 = .ok (.invokevirtual 51, 3) := by decide +kernel
theorem dX8_scoreOf_34 : decode cX8_scoreOf 34 = .ok (.fadd, 1) := by decide +kernel
theorem dX8_scoreOf_35 : decode cX8_scoreOf 35 = .ok (.fstore_n 3, 1) := by decide +kernel
theorem dX8_scoreOf_36 : decode cX8_scoreOf 36 = .ok (.iinc 4 1, 3) := by decide +kernel
theorem dX8_scoreOf_39 : decode cX8_scoreOf 39 = .ok (.goto (-25), 3) := by decide +kernel
theorem dX8_scoreOf_42 : decode cX8_scoreOf 42 = .ok (.fload_n 3, 1) := by decide +kernel
theorem dX8_scoreOf_43 : decode cX8_scoreOf 43 = .ok (.f2d, 1) := by decide +kernel
theorem dX8_scoreOf_44 : decode cX8_scoreOf 44 = .ok (.dreturn, 1) := by decide +kernel
theorem dX8_greatestProduct_0 : decode cX8_greatestProduct 0 = .ok (.aload_n 2, 1) := by decide +kernel
theorem dX8_greatestProduct_1 : decode cX8_greatestProduct 1 = .ok (.invokevirtual 27, 3) := by decide +kernel
theorem dX8_greatestProduct_4 : decode cX8_greatestProduct 4 = .ok (.ifCond .ne 5, 3) := by decide +kernel
theorem dX8_greatestProduct_7 : decode cX8_greatestProduct 7 = .ok (.fconst 0, 1) := by decide +kernel
theorem dX8_greatestProduct_8 : decode cX8_greatestProduct 8 = .ok (.freturn, 1) := by decide +kernel
theorem dX8_greatestProduct_9 : decode cX8_greatestProduct 9 = .ok (.aload_n 0, 1) := by decide +kernel
theorem dX8_greatestProduct_10 : decode cX8_greatestProduct 10 = .ok (.getfield 19, 3) := by decide +kernel
theorem dX8_greatestProduct_13 : decode cX8_greatestProduct 13 = .ok (.iload_n 1, 1) := by decide +kernel
theorem dX8_greatestProduct_14 : decode cX8_greatestProduct 14 = .ok (.aload_n 2, 1) := by decide +kernel
theorem dX8_greatestProduct_15 : decode cX8_greatestProduct 15 = .ok (.iconst 0, 1) := by decide +kernel
theorem dX8_greatestProduct_16 : decode cX8_greatestProduct 16 = .ok (.invokevirtual 55, 3) := by decide +kernel
theorem dX8_greatestProduct_19 : decode cX8_greatestProduct 19 = .ok (.fstore_n 3, 1) := by decide +kernel
theorem dX8_greatestProduct_20 : decode cX8_greatestProduct 20 = .ok (.iconst 1, 1) := by decide +kernel
theorem dX8_greatestProduct_21 : decode cX8_greatestProduct 21 = .ok (.istore 4, 2) := by decide +kernel
theorem dX8_greatestProduct_23 : decode cX8_greatestProduct 23 = .ok (.iload 4, 2) := by decide +kernel
theorem dX8_greatestProduct_25 : decode cX8_greatestProduct 25 = .ok (.aload_n 2, 1) := by decide +kernel
theorem dX8_greatestProduct_26 : decode cX8_greatestProduct 26 = .ok (.invokevirtual 27, 3) := by decide +kernel
theorem dX8_greatestProduct_29 : decode cX8_greatestProduct 29 = .ok (.if_icmp .ge 25, 3) := by decide +kernel
theorem dX8_greatestProduct_32 : decode cX8_greatestProduct 32 = .ok (.fload_n 3, 1) := by decide +kernel
theorem dX8_greatestProduct_33 : decode cX8_greatestProduct 33 = .ok (.aload_n 0, 1) := by decide +kernel
theorem dX8_greatestProduct_34 : decode cX8_greatestProduct 34 = .ok (.getfield 19, 3) := by decide +kernel
theorem dX8_greatestProduct_37 : decode cX8_greatestProduct 37 = .ok (.iload_n 1, 1) := by decide +kernel
theorem dX8_greatestProduct_38 : decode cX8_greatestProduct 38 = .ok (.aload_n 2, 1) := by decide +kernel
theorem dX8_greatestProduct_39 : decode cX8_greatestProduct 39 = .ok (.iload 4, 2) := by decide +kernel
theorem dX8_greatestProduct_41 : decode cX8_greatestProduct 41 = .ok (.invokevirtual 55, 3) := by decide +kernel
theorem dX8_greatestProduct_44 : decode cX8_greatestProduct 44 = .ok (.invokestatic 59, 3) := by decide +kernel
theorem dX8_greatestProduct_47 : decode cX8_greatestProduct 47 = .ok (.fstore_n 3, 1) := by decide +kernel
theorem dX8_greatestProduct_48 : decode cX8_greatestProduct 48 = .ok (.iinc 4 1, 3) := by decide +kernel
theorem dX8_greatestProduct_51 : decode cX8_greatestProduct 51 = .ok (.goto (-28), 3) := by decide +kernel
theorem dX8_greatestProduct_54 : decode cX8_greatestProduct 54 = .ok (.fload_n 3, 1) := by decide +kernel
theorem dX8_greatestProduct_55 : decode cX8_greatestProduct 55 = .ok (.freturn, 1) := by decide +kernel
theorem dX9_init_0 : decode cX9_init 0 = .ok (.aload_n 0, 1) := by decide +kernel
theorem dX9_init_1 : decode cX9_init 1 = .ok (.invokespecial 3, 3) := by decide +kernel
theorem dX9_init_4 : decode cX9_init 4 = .ok (.aload_n 0, 1) := by decide +kernel
theorem dX9_init_5 : decode cX9_init 5 = .ok (.new 9, 3) := by decide +kernel
theorem dX9_init_8 : decode cX9_init 8 = .ok (.dup, 1) := by decide +kernel
theorem dX9_init_9 : decode cX9_init 9 = .ok (.invokespecial 11, 3) := by decide +kernel
theorem dX9_init_12 : decode cX9_init 12 = .ok (.putfield 12, 3) := by decide +kernel
theorem dX9_init_15 : decode cX9_init 15 = .ok (.aload_n 0, 1) := by decide +kernel
theorem dX9_init_16 : decode cX9_init 16 = .ok (.new 16, 3) := by decide +kernel
theorem dX9_init_19 : decode cX9_init 19 = .ok (.dup, 1) := by decide +kernel
theorem dX9_init_20 : decode cX9_init 20 = .ok (.invokespecial 18, 3) := by decide +kernel
theorem dX9_init_23 : decode cX9_init 23 = .ok (.putfield 19, 3) := by decide +kernel
theorem dX9_init_26 : decode cX9_init 26 = .ok (.aload_n 0, 1) := by decide +kernel
theorem dX9_init_27 : decode cX9_init 27 = .ok (.new 16, 3) := by decide +kernel
theorem dX9_init_30 : decode cX9_init 30 = .ok (.dup, 1) := by decide +kernel
theorem dX9_init_31 : decode cX9_init 31 = .ok (.invokespecial 18, 3) := by decide +kernel
theorem dX9_init_34 : decode cX9_init 34 = .ok (.putfield 23, 3) := by decide +kernel
theorem dX9_init_37 : decode cX9_init 37 = .ok (.aload_n 0, 1) := by decide +kernel
theorem dX9_init_38 : decode cX9_init 38 = .ok (.new 26, 3) := by decide +kernel
theorem dX9_init_41 : decode cX9_init 41 = .ok (.dup, 1) := by decide +kernel
theorem dX9_init_42 : decode cX9_init 42 = .ok (.iconst 3, 1) := by decide +kernel
theorem dX9_init_43 : decode cX9_init 43 = .ok (.invokespecial 28, 3) := by decide +kernel
theorem dX9_init_46 : decode cX9_init 46 = .ok (.putfield 31, 3) := by decide +kernel
theorem dX9_init_49 : decode cX9_init 49 = .ok (.aload_n 0, 1) := by decide +kernel
theorem dX9_init_50 : decode cX9_init 50 = .ok (.new 35, 3) := by decide +kernel
theorem dX9_init_53 : decode cX9_init 53 = .ok (.dup, 1) := by decide +kernel
theorem dX9_init_54 : decode cX9_init 54 = .ok (.invokespecial 37, 3) := by decide +kernel
theorem dX9_init_57 : decode cX9_init 57 = .ok (.putfield 38, 3) := by decide +kernel
theorem dX9_init_60 : decode cX9_init 60 = .ok (.aload_n 0, 1) := by decide +kernel
theorem dX9_init_61 : decode cX9_init 61 = .ok (.new 42, 3) := by decide +kernel
theorem dX9_init_64 : decode cX9_init 64 = .ok (.dup, 1) := by decide +kernel
theorem dX9_init_65 : decode cX9_init 65 = .ok (.aload_n 0, 1) := by decide +kernel
theorem dX9_init_66 : decode cX9_init 66 = .ok (.getfield 12, 3) := by decide +kernel
theorem dX9_init_69 : decode cX9_init 69 = .ok (.aload_n 0, 1) := by decide +kernel
theorem dX9_init_70 : decode cX9_init 70 = .ok (.getfield 31, 3) := by decide +kernel
theorem dX9_init_73 : decode cX9_init 73 = .ok (.invokespecial 44, 3) := by decide +kernel
theorem dX9_init_76 : decode cX9_init 76 = .ok (.putfield 47, 3) := by decide +kernel
theorem dX9_init_79 : decode cX9_init 79 = .ok (.aload_n 0, 1) := by decide +kernel
theorem dX9_init_80 : decode cX9_init 80 = .ok (.new 51, 3) := by decide +kernel
theorem dX9_init_83 : decode cX9_init 83 = .ok (.dup, 1) := by decide +kernel
theorem dX9_init_84 : decode cX9_init 84 = .ok (.invokespecial 53, 3) := by decide +kernel
theorem dX9_init_87 : decode cX9_init 87 = .ok (.putfield 54, 3) := by decide +kernel
theorem dX9_init_90 : decode cX9_init 90 = .ok (.aload_n 0, 1) := by decide +kernel
theorem dX9_init_91 : decode cX9_init 91 = .ok (.iconst 3, 1) := by decide +kernel
theorem dX9_init_92 : decode cX9_init 92 = .ok (.anewarray 58, 3) := by decide +kernel
theorem dX9_init_95 : decode cX9_init 95 = .ok (.putfield 60, 3) := by decide +kernel
theorem dX9_init_98 : decode cX9_init 98 = .ok (.iconst 0, 1) := by decide +kernel
theorem dX9_init_99 : decode cX9_init 99 = .ok (.istore_n 1, 1) := by decide +kernel
theorem dX9_init_100 : decode cX9_init 100 = .ok (.iload_n 1, 1) := by decide +kernel
theorem dX9_init_101 : decode cX9_init 101 = .ok (.iconst 3, 1) := by decide +kernel
theorem dX9_init_102 : decode cX9_init 102 = .ok (.if_icmp .ge 22, 3) := by decide +kernel
theorem dX9_init_105 : decode cX9_init 105 = .ok (.aload_n 0, 1) := by decide +kernel
theorem dX9_init_106 : decode cX9_init 106 = .ok (.getfield 60, 3) := by decide +kernel
theorem dX9_init_109 : decode cX9_init 109 = .ok (.iload_n 1, 1) := by decide +kernel
theorem dX9_init_110 : decode cX9_init 110 = .ok (.new 58, 3) := by decide +kernel
theorem dX9_init_113 : decode cX9_init 113 = .ok (.dup, 1) := by decide +kernel
theorem dX9_init_114 : decode cX9_init 114 = .ok (.invokespecial 64, 3) := by decide +kernel
theorem dX9_init_117 : decode cX9_init 117 = .ok (.aastore, 1) := by decide +kernel
theorem dX9_init_118 : decode cX9_init 118 = .ok (.iinc 1 1, 3) := by decide +kernel
theorem dX9_init_121 : decode cX9_init 121 = .ok (.goto (-21), 3) := by decide +kernel
theorem dX9_init_124 : decode cX9_init 124 = .ok (.aload_n 0, 1) := by decide +kernel
theorem dX9_init_125 : decode cX9_init 125 = .ok (.new 65, 3) := by decide +kernel
theorem dX9_init_128 : decode cX9_init 128 = .ok (.dup, 1) := by decide +kernel
theorem dX9_init_129 : decode cX9_init 129 = .ok (.invokespecial 67, 3) := by decide +kernel
theorem dX9_init_132 : decode cX9_init 132 = .ok (.putfield 68, 3) := by decide +kernel
theorem dX9_init_135 : decode cX9_init 135 = .ok (.return_, 1) := by decide +kernel
theorem dX9_document_0 : decode cX9_document 0 = .ok (.aload_n 0, 1) := by decide +kernel
theorem dX9_document_1 : decode cX9_document 1 = .ok (.getfield 12, 3) := by decide +kernel
theorem dX9_document_4 : decode cX9_document 4 = .ok (.invokevirtual 72, 3) := by decide +kernel
theorem dX9_document_7 : decode cX9_document 7 = .ok (.ifCond .eq 13, 3) := by decide +kernel
theorem dX9_document_10 : decode cX9_document 10 = .ok (.new 76, 3) := by decide +kernel
theorem dX9_document_13 : decode cX9_document 13 = .ok (.dup, 1) := by decide +kernel
theorem dX9_document_14 : decode cX9_document 14 = .ok (.ldc 78, 2) := by decide +kernel
theorem dX9_document_16 : decode cX9_document 16 = .ok (.invokespecial 80, 3) := by decide +kernel
theorem dX9_document_19 : decode cX9_document 19 = .ok (.athrow, 1) := by decide +kernel
theorem dX9_document_20 : decode cX9_document 20 = .ok (.aload_n 0, 1) := by decide +kernel
theorem dX9_document_21 : decode cX9_document 21 = .ok (.invokevirtual 83, 3) := by decide +kernel
theorem dX9_document_24 : decode cX9_document 24 = .ok (.aload_n 0, 1) := by decide +kernel
theorem dX9_document_25 : decode cX9_document 25 = .ok (.getfield 12, 3) := by decide +kernel
theorem dX9_document_28 : decode cX9_document 28 = .ok (.invokevirtual 86, 3) := by decide +kernel
theorem dX9_document_31 : decode cX9_document 31 = .ok (.ireturn, 1) := by decide +kernel
theorem dX9_count_0 : decode cX9_count 0 = .ok (.aload_n 0, 1) := by decide +kernel
theorem dX9_count_1 : decode cX9_count 1 = .ok (.getfield 12, 3) := by decide +kernel
theorem dX9_count_4 : decode cX9_count 4 = .ok (.iload_n 1, 1) := by decide +kernel
theorem dX9_count_5 : decode cX9_count 5 = .ok (.invokevirtual 90, 3) := by decide +kernel
theorem dX9_count_8 : decode cX9_count 8 = .ok (.ifCond .eq 10, 3) := by decide +kernel
theorem dX9_count_11 : decode cX9_count 11 = .ok (.iload_n 2, 1) := by decide +kernel
theorem dX9_count_12 : decode cX9_count 12 = .ok (.invokestatic 94, 3) := by decide +kernel
theorem dX9_count_15 : decode cX9_count 15 = .ok (.ifCond .ne 13, 3) := by decide +kernel
theorem dX9_count_18 : decode cX9_count 18 = .ok (.new 97, 3) := by decide +kernel
theorem dX9_count_21 : decode cX9_count 21 = .ok (.dup, 1) := by decide +kernel
theorem dX9_count_22 : decode cX9_count 22 = .ok (.ldc 99, 2) := by decide +kernel
theorem dX9_count_24 : decode cX9_count 24 = .ok (.invokespecial 101, 3) := by decide +kernel
theorem dX9_count_27 : decode cX9_count 27 = .ok (.athrow, 1) := by decide +kernel
theorem dX9_count_28 : decode cX9_count 28 = .ok (.aload_n 0, 1) := by decide +kernel
theorem dX9_count_29 : decode cX9_count 29 = .ok (.getfield 12, 3) := by decide +kernel
theorem dX9_count_32 : decode cX9_count 32 = .ok (.iload_n 1, 1) := by decide +kernel
theorem dX9_count_33 : decode cX9_count 33 = .ok (.iload_n 2, 1) := by decide +kernel
theorem dX9_count_34 : decode cX9_count 34 = .ok (.invokevirtual 102, 3) := by decide +kernel
theorem dX9_count_37 : decode cX9_count 37 = .ok (.sipush 1000, 3) := by decide +kernel
theorem dX9_count_40 : decode cX9_count 40 = .ok (.if_icmp .lt 13, 3) := by decide +kernel
theorem dX9_count_43 : decode cX9_count 43 = .ok (.new 76, 3) := by decide +kernel
theorem dX9_count_46 : decode cX9_count 46 = .ok (.dup, 1) := by decide +kernel
theorem dX9_count_47 : decode cX9_count 47 = .ok (.ldc 106, 2) := by decide +kernel
theorem dX9_count_49 : decode cX9_count 49 = .ok (.invokespecial 80, 3) := by decide +kernel
theorem dX9_count_52 : decode cX9_count 52 = .ok (.athrow, 1) := by decide +kernel
theorem dX9_count_53 : decode cX9_count 53 = .ok (.aload_n 0, 1) := by decide +kernel
theorem dX9_count_54 : decode cX9_count 54 = .ok (.invokevirtual 83, 3) := by decide +kernel
theorem dX9_count_57 : decode cX9_count 57 = .ok (.aload_n 0, 1) := by decide +kernel
theorem dX9_count_58 : decode cX9_count 58 = .ok (.getfield 12, 3) := by decide +kernel
theorem dX9_count_61 : decode cX9_count 61 = .ok (.iload_n 1, 1) := by decide +kernel
theorem dX9_count_62 : decode cX9_count 62 = .ok (.iload_n 2, 1) := by decide +kernel
theorem dX9_count_63 : decode cX9_count 63 = .ok (.invokevirtual 108, 3) := by decide +kernel
theorem dX9_count_66 : decode cX9_count 66 = .ok (.ireturn, 1) := by decide +kernel
theorem dX9_weigh_0 : decode cX9_weigh 0 = .ok (.aload_n 0, 1) := by decide +kernel
theorem dX9_weigh_1 : decode cX9_weigh 1 = .ok (.getfield 12, 3) := by decide +kernel
theorem dX9_weigh_4 : decode cX9_weigh 4 = .ok (.iload_n 1, 1) := by decide +kernel
theorem dX9_weigh_5 : decode cX9_weigh 5 = .ok (.invokevirtual 90, 3) := by decide +kernel
theorem dX9_weigh_8 : decode cX9_weigh 8 = .ok (.ifCond .eq 10, 3) := by decide +kernel
theorem dX9_weigh_11 : decode cX9_weigh 11 = .ok (.iload_n 2, 1) := by decide +kernel
theorem dX9_weigh_12 : decode cX9_weigh 12 = .ok (.invokestatic 94, 3) := by decide +kernel
theorem dX9_weigh_15 : decode cX9_weigh 15 = .ok (.ifCond .ne 13, 3) := by decide +kernel
theorem dX9_weigh_18 : decode cX9_weigh 18 = .ok (.new 97, 3) := by decide +kernel
theorem dX9_weigh_21 : decode cX9_weigh 21 = .ok (.dup, 1) := by decide +kernel
theorem dX9_weigh_22 : decode cX9_weigh 22 = .ok (.ldc 99, 2) := by decide +kernel
theorem dX9_weigh_24 : decode cX9_weigh 24 = .ok (.invokespecial 101, 3) := by decide +kernel
theorem dX9_weigh_27 : decode cX9_weigh 27 = .ok (.athrow, 1) := by decide +kernel
theorem dX9_weigh_28 : decode cX9_weigh 28 = .ok (.fload_n 3, 1) := by decide +kernel
theorem dX9_weigh_29 : decode cX9_weigh 29 = .ok (.invokestatic 111, 3) := by decide +kernel
theorem dX9_weigh_32 : decode cX9_weigh 32 = .ok (.ifCond .eq 9, 3) := by decide +kernel
theorem dX9_weigh_35 : decode cX9_weigh 35 = .ok (.fload_n 3, 1) := by decide +kernel
theorem dX9_weigh_36 : decode cX9_weigh 36 = .ok (.fconst 0, 1) := by decide +kernel
theorem dX9_weigh_37 : decode cX9_weigh 37 = .ok (.fcmp .g, 1) := by decide +kernel
theorem dX9_weigh_38 : decode cX9_weigh 38 = .ok (.ifCond .ge 13, 3) := by decide +kernel
theorem dX9_weigh_41 : decode cX9_weigh 41 = .ok (.new 115, 3) := by decide +kernel
theorem dX9_weigh_44 : decode cX9_weigh 44 = .ok (.dup, 1) := by decide +kernel
theorem dX9_weigh_45 : decode cX9_weigh 45 = .ok (.ldc 117, 2) := by decide +kernel
theorem dX9_weigh_47 : decode cX9_weigh 47 = .ok (.invokespecial 119, 3) := by decide +kernel
theorem dX9_weigh_50 : decode cX9_weigh 50 = .ok (.athrow, 1) := by decide +kernel
theorem dX9_weigh_51 : decode cX9_weigh 51 = .ok (.aload_n 0, 1) := by decide +kernel
theorem dX9_weigh_52 : decode cX9_weigh 52 = .ok (.invokevirtual 83, 3) := by decide +kernel
theorem dX9_weigh_55 : decode cX9_weigh 55 = .ok (.aload_n 0, 1) := by decide +kernel
theorem dX9_weigh_56 : decode cX9_weigh 56 = .ok (.getfield 12, 3) := by decide +kernel
theorem dX9_weigh_59 : decode cX9_weigh 59 = .ok (.iload_n 1, 1) := by decide +kernel
theorem dX9_weigh_60 : decode cX9_weigh 60 = .ok (.iload_n 2, 1) := by decide +kernel
theorem dX9_weigh_61 : decode cX9_weigh 61 = .ok (.fload_n 3, 1) := by decide +kernel
theorem dX9_weigh_62 : decode cX9_weigh 62 = .ok (.invokevirtual 120, 3) := by decide +kernel
theorem dX9_weigh_65 : decode cX9_weigh 65 = .ok (.return_, 1) := by decide +kernel
theorem dX9_token_0 : decode cX9_token 0 = .ok (.aload_n 0, 1) := by decide +kernel
theorem dX9_token_1 : decode cX9_token 1 = .ok (.getfield 12, 3) := by decide +kernel
theorem dX9_token_4 : decode cX9_token 4 = .ok (.iload_n 1, 1) := by decide +kernel
theorem dX9_token_5 : decode cX9_token 5 = .ok (.invokevirtual 90, 3) := by decide +kernel
theorem dX9_token_8 : decode cX9_token 8 = .ok (.ifCond .ne 13, 3) := by decide +kernel
theorem dX9_token_11 : decode cX9_token 11 = .ok (.new 97, 3) := by decide +kernel
theorem dX9_token_14 : decode cX9_token 14 = .ok (.dup, 1) := by decide +kernel
theorem dX9_token_15 : decode cX9_token 15 = .ok (.ldc 124, 2) := by decide +kernel
theorem dX9_token_17 : decode cX9_token 17 = .ok (.invokespecial 101, 3) := by decide +kernel
theorem dX9_token_20 : decode cX9_token 20 = .ok (.athrow, 1) := by decide +kernel
theorem dX9_token_21 : decode cX9_token 21 = .ok (.fload_n 2, 1) := by decide +kernel
theorem dX9_token_22 : decode cX9_token 22 = .ok (.fload_n 3, 1) := by decide +kernel
theorem dX9_token_23 : decode cX9_token 23 = .ok (.fload 4, 2) := by decide +kernel
theorem dX9_token_25 : decode cX9_token 25 = .ok (.fload 5, 2) := by decide +kernel
theorem dX9_token_27 : decode cX9_token 27 = .ok (.invokestatic 126, 3) := by decide +kernel
theorem dX9_token_30 : decode cX9_token 30 = .ok (.ifCond .ne 13, 3) := by decide +kernel
theorem dX9_token_33 : decode cX9_token 33 = .ok (.new 115, 3) := by decide +kernel
theorem dX9_token_36 : decode cX9_token 36 = .ok (.dup, 1) := by decide +kernel
theorem dX9_token_37 : decode cX9_token 37 = .ok (.ldc 130, 2) := by decide +kernel
theorem dX9_token_39 : decode cX9_token 39 = .ok (.invokespecial 119, 3) := by decide +kernel
theorem dX9_token_42 : decode cX9_token 42 = .ok (.athrow, 1) := by decide +kernel
theorem dX9_token_43 : decode cX9_token 43 = .ok (.aload_n 0, 1) := by decide +kernel
theorem dX9_token_44 : decode cX9_token 44 = .ok (.getfield 12, 3) := by decide +kernel
theorem dX9_token_47 : decode cX9_token 47 = .ok (.iload_n 1, 1) := by decide +kernel
theorem dX9_token_48 : decode cX9_token 48 = .ok (.invokevirtual 132, 3) := by decide +kernel
theorem dX9_token_51 : decode cX9_token 51 = .ok (.astore 6, 2) := by decide +kernel
theorem dX9_token_53 : decode cX9_token 53 = .ok (.aload 6, 2) := by decide +kernel
theorem dX9_token_55 : decode cX9_token 55 = .ok (.invokevirtual 136, 3) := by decide +kernel
theorem dX9_token_58 : decode cX9_token 58 = .ok (.ifCond .eq 13, 3) := by decide +kernel
theorem dX9_token_61 : decode cX9_token 61 = .ok (.new 76, 3) := by decide +kernel
theorem dX9_token_64 : decode cX9_token 64 = .ok (.dup, 1) := by decide +kernel
theorem dX9_token_65 : decode cX9_token 65 = .ok (.ldc 137, 2) := by decide +kernel
theorem dX9_token_67 : decode cX9_token 67 = .ok (.invokespecial 80, 3) := by decide +kernel
theorem dX9_token_70 : decode cX9_token 70 = .ok (.athrow, 1) := by decide +kernel
theorem dX9_token_71 : decode cX9_token 71 = .ok (.aload_n 0, 1) := by decide +kernel
theorem dX9_token_72 : decode cX9_token 72 = .ok (.invokevirtual 83, 3) := by decide +kernel
theorem dX9_token_75 : decode cX9_token 75 = .ok (.aload 6, 2) := by decide +kernel
theorem dX9_token_77 : decode cX9_token 77 = .ok (.fload_n 2, 1) := by decide +kernel
theorem dX9_token_78 : decode cX9_token 78 = .ok (.fload_n 3, 1) := by decide +kernel
theorem dX9_token_79 : decode cX9_token 79 = .ok (.fload 4, 2) := by decide +kernel
theorem dX9_token_81 : decode cX9_token 81 = .ok (.fload 5, 2) := by decide +kernel
theorem dX9_token_83 : decode cX9_token 83 = .ok (.invokevirtual 139, 3) := by decide +kernel
theorem dX9_token_86 : decode cX9_token 86 = .ok (.iconst 1, 1) := by decide +kernel
theorem dX9_token_87 : decode cX9_token 87 = .ok (.isub, 1) := by decide +kernel
theorem dX9_token_88 : decode cX9_token 88 = .ok (.ireturn, 1) := by decide +kernel
theorem dX9_centroid_0 : decode cX9_centroid 0 = .ok (.fload_n 1, 1) := by decide +kernel
theorem dX9_centroid_1 : decode cX9_centroid 1 = .ok (.fload_n 2, 1) := by decide +kernel
theorem dX9_centroid_2 : decode cX9_centroid 2 = .ok (.fload_n 3, 1) := by decide +kernel
theorem dX9_centroid_3 : decode cX9_centroid 3 = .ok (.fload 4, 2) := by decide +kernel
theorem dX9_centroid_5 : decode cX9_centroid 5 = .ok (.invokestatic 126, 3) := by decide +kernel
theorem dX9_centroid_8 : decode cX9_centroid 8 = .ok (.ifCond .ne 13, 3) := by decide +kernel
theorem dX9_centroid_11 : decode cX9_centroid 11 = .ok (.new 115, 3) := by decide +kernel
theorem dX9_centroid_14 : decode cX9_centroid 14 = .ok (.dup, 1) := by decide +kernel
theorem dX9_centroid_15 : decode cX9_centroid 15 = .ok (.ldc 130, 2) := by decide +kernel
theorem dX9_centroid_17 : decode cX9_centroid 17 = .ok (.invokespecial 119, 3) := by decide +kernel
theorem dX9_centroid_20 : decode cX9_centroid 20 = .ok (.athrow, 1) := by decide +kernel
theorem dX9_centroid_21 : decode cX9_centroid 21 = .ok (.aload_n 0, 1) := by decide +kernel
theorem dX9_centroid_22 : decode cX9_centroid 22 = .ok (.getfield 12, 3) := by decide +kernel
theorem dX9_centroid_25 : decode cX9_centroid 25 = .ok (.invokevirtual 143, 3) := by decide +kernel
theorem dX9_centroid_28 : decode cX9_centroid 28 = .ok (.invokevirtual 136, 3) := by decide +kernel
theorem dX9_centroid_31 : decode cX9_centroid 31 = .ok (.ifCond .eq 13, 3) := by decide +kernel
theorem dX9_centroid_34 : decode cX9_centroid 34 = .ok (.new 76, 3) := by decide +kernel
theorem dX9_centroid_37 : decode cX9_centroid 37 = .ok (.dup, 1) := by decide +kernel
theorem dX9_centroid_38 : decode cX9_centroid 38 = .ok (.ldc 147, 2) := by decide +kernel
theorem dX9_centroid_40 : decode cX9_centroid 40 = .ok (.invokespecial 80, 3) := by decide +kernel
theorem dX9_centroid_43 : decode cX9_centroid 43 = .ok (.athrow, 1) := by decide +kernel
theorem dX9_centroid_44 : decode cX9_centroid 44 = .ok (.aload_n 0, 1) := by decide +kernel
theorem dX9_centroid_45 : decode cX9_centroid 45 = .ok (.invokevirtual 83, 3) := by decide +kernel
theorem dX9_centroid_48 : decode cX9_centroid 48 = .ok (.aload_n 0, 1) := by decide +kernel
theorem dX9_centroid_49 : decode cX9_centroid 49 = .ok (.getfield 12, 3) := by decide +kernel
theorem dX9_centroid_52 : decode cX9_centroid 52 = .ok (.invokevirtual 143, 3) := by decide +kernel
theorem dX9_centroid_55 : decode cX9_centroid 55 = .ok (.fload_n 1, 1) := by decide +kernel
theorem dX9_centroid_56 : decode cX9_centroid 56 = .ok (.fload_n 2, 1) := by decide +kernel
theorem dX9_centroid_57 : decode cX9_centroid 57 = .ok (.fload_n 3, 1) := by decide +kernel
theorem dX9_centroid_58 : decode cX9_centroid 58 = .ok (.fload 4, 2) := by decide +kernel
theorem dX9_centroid_60 : decode cX9_centroid 60 = .ok (.invokevirtual 139, 3) := by decide +kernel
theorem dX9_centroid_63 : decode cX9_centroid 63 = .ok (.iconst 1, 1) := by decide +kernel
theorem dX9_centroid_64 : decode cX9_centroid 64 = .ok (.isub, 1) := by decide +kernel
theorem dX9_centroid_65 : decode cX9_centroid 65 = .ok (.ireturn, 1) := by decide +kernel
theorem dX9_clear_0 : decode cX9_clear 0 = .ok (.aload_n 0, 1) := by decide +kernel
theorem dX9_clear_1 : decode cX9_clear 1 = .ok (.getfield 19, 3) := by decide +kernel
theorem dX9_clear_4 : decode cX9_clear 4 = .ok (.invokevirtual 149, 3) := by decide +kernel
theorem dX9_clear_7 : decode cX9_clear 7 = .ok (.aload_n 0, 1) := by decide +kernel
theorem dX9_clear_8 : decode cX9_clear 8 = .ok (.getfield 23, 3) := by decide +kernel
theorem dX9_clear_11 : decode cX9_clear 11 = .ok (.invokevirtual 149, 3) := by decide +kernel
theorem dX9_clear_14 : decode cX9_clear 14 = .ok (.aload_n 0, 1) := by decide +kernel
theorem dX9_clear_15 : decode cX9_clear 15 = .ok (.getfield 31, 3) := by decide +kernel
theorem dX9_clear_18 : decode cX9_clear 18 = .ok (.invokevirtual 152, 3) := by decide +kernel
theorem dX9_clear_21 : decode cX9_clear 21 = .ok (.aload_n 0, 1) := by decide +kernel
theorem dX9_clear_22 : decode cX9_clear 22 = .ok (.invokevirtual 83, 3) := by decide +kernel
theorem dX9_clear_25 : decode cX9_clear 25 = .ok (.return_, 1) := by decide +kernel
theorem dX9_word_0 : decode cX9_word 0 = .ok (.iload_n 1, 1) := by decide +kernel
theorem dX9_word_1 : decode cX9_word 1 = .ok (.invokestatic 94, 3) := by decide +kernel
theorem dX9_word_4 : decode cX9_word 4 = .ok (.ifCond .ne 13, 3) := by decide +kernel
theorem dX9_word_7 : decode cX9_word 7 = .ok (.new 97, 3) := by decide +kernel
theorem dX9_word_10 : decode cX9_word 10 = .ok (.dup, 1) := by decide +kernel
theorem dX9_word_11 : decode cX9_word 11 = .ok (.ldc 153, 2) := by decide +kernel
theorem dX9_word_13 : decode cX9_word 13 = .ok (.invokespecial 101, 3) := by decide +kernel
theorem dX9_word_16 : decode cX9_word 16 = .ok (.athrow, 1) := by decide +kernel
theorem dX9_word_17 : decode cX9_word 17 = .ok (.aload_n 0, 1) := by decide +kernel
theorem dX9_word_18 : decode cX9_word 18 = .ok (.getfield 19, 3) := by decide +kernel
theorem dX9_word_21 : decode cX9_word 21 = .ok (.iload_n 1, 1) := by decide +kernel
theorem dX9_word_22 : decode cX9_word 22 = .ok (.invokevirtual 155, 3) := by decide +kernel
theorem dX9_word_25 : decode cX9_word 25 = .ok (.ifCond .eq 13, 3) := by decide +kernel
theorem dX9_word_28 : decode cX9_word 28 = .ok (.new 115, 3) := by decide +kernel
theorem dX9_word_31 : decode cX9_word 31 = .ok (.dup, 1) := by decide +kernel
theorem dX9_word_32 : decode cX9_word 32 = .ok (.ldc 156, 2) := by decide +kernel
theorem dX9_word_34 : decode cX9_word 34 = .ok (.invokespecial 119, 3) := by decide +kernel
theorem dX9_word_37 : decode cX9_word 37 = .ok (.athrow, 1) := by decide +kernel
theorem dX9_word_38 : decode cX9_word 38 = .ok (.aload_n 0, 1) := by decide +kernel
theorem dX9_word_39 : decode cX9_word 39 = .ok (.getfield 19, 3) := by decide +kernel
theorem dX9_word_42 : decode cX9_word 42 = .ok (.invokevirtual 158, 3) := by decide +kernel
theorem dX9_word_45 : decode cX9_word 45 = .ok (.ifCond .eq 13, 3) := by decide +kernel
theorem dX9_word_48 : decode cX9_word 48 = .ok (.new 76, 3) := by decide +kernel
theorem dX9_word_51 : decode cX9_word 51 = .ok (.dup, 1) := by decide +kernel
theorem dX9_word_52 : decode cX9_word 52 = .ok (.ldc 159, 2) := by decide +kernel
theorem dX9_word_54 : decode cX9_word 54 = .ok (.invokespecial 80, 3) := by decide +kernel
theorem dX9_word_57 : decode cX9_word 57 = .ok (.athrow, 1) := by decide +kernel
theorem dX9_word_58 : decode cX9_word 58 = .ok (.aload_n 0, 1) := by decide +kernel
theorem dX9_word_59 : decode cX9_word 59 = .ok (.iconst 0, 1) := by decide +kernel
theorem dX9_word_60 : decode cX9_word 60 = .ok (.invokevirtual 161, 3) := by decide +kernel
theorem dX9_word_63 : decode cX9_word 63 = .ok (.aload_n 0, 1) := by decide +kernel
theorem dX9_word_64 : decode cX9_word 64 = .ok (.getfield 19, 3) := by decide +kernel
theorem dX9_word_67 : decode cX9_word 67 = .ok (.iload_n 1, 1) := by decide +kernel
theorem dX9_word_68 : decode cX9_word 68 = .ok (.iconst 1, 1) := by decide +kernel
theorem dX9_word_69 : decode cX9_word 69 = .ok (.invokevirtual 164, 3) := by decide +kernel
theorem dX9_word_72 : decode cX9_word 72 = .ok (.ireturn, 1) := by decide +kernel
theorem dX9_impact_0 : decode cX9_impact 0 = .ok (.iload_n 1, 1) := by decide +kernel
theorem dX9_impact_1 : decode cX9_impact 1 = .ok (.invokestatic 94, 3) := by decide +kernel
theorem dX9_impact_4 : decode cX9_impact 4 = .ok (.ifCond .ne 13, 3) := by decide +kernel
theorem dX9_impact_7 : decode cX9_impact 7 = .ok (.new 97, 3) := by decide +kernel
theorem dX9_impact_10 : decode cX9_impact 10 = .ok (.dup, 1) := by decide +kernel
theorem dX9_impact_11 : decode cX9_impact 11 = .ok (.ldc 153, 2) := by decide +kernel
theorem dX9_impact_13 : decode cX9_impact 13 = .ok (.invokespecial 101, 3) := by decide +kernel
theorem dX9_impact_16 : decode cX9_impact 16 = .ok (.athrow, 1) := by decide +kernel
theorem dX9_impact_17 : decode cX9_impact 17 = .ok (.aload_n 0, 1) := by decide +kernel
theorem dX9_impact_18 : decode cX9_impact 18 = .ok (.getfield 23, 3) := by decide +kernel
theorem dX9_impact_21 : decode cX9_impact 21 = .ok (.iload_n 1, 1) := by decide +kernel
theorem dX9_impact_22 : decode cX9_impact 22 = .ok (.invokevirtual 155, 3) := by decide +kernel
theorem dX9_impact_25 : decode cX9_impact 25 = .ok (.ifCond .ne 14, 3) := by decide +kernel
theorem dX9_impact_28 : decode cX9_impact 28 = .ok (.iload_n 2, 1) := by decide +kernel
theorem dX9_impact_29 : decode cX9_impact 29 = .ok (.iconst 1, 1) := by decide +kernel
theorem dX9_impact_30 : decode cX9_impact 30 = .ok (.if_icmp .lt 9, 3) := by decide +kernel
theorem dX9_impact_33 : decode cX9_impact 33 = .ok (.iload_n 2, 1) := by decide +kernel
theorem dX9_impact_34 : decode cX9_impact 34 = .ok (.bipush 100, 2) := by decide +kernel
theorem dX9_impact_36 : decode cX9_impact 36 = .ok (.if_icmp .le 13, 3) := by decide +kernel
theorem dX9_impact_39 : decode cX9_impact 39 = .ok (.new 115, 3) := by decide +kernel
theorem dX9_impact_42 : decode cX9_impact 42 = .ok (.dup, 1) := by decide +kernel
theorem dX9_impact_43 : decode cX9_impact 43 = .ok (.ldc 166, 2) := by decide +kernel
theorem dX9_impact_45 : decode cX9_impact 45 = .ok (.invokespecial 119, 3) := by decide +kernel
theorem dX9_impact_48 : decode cX9_impact 48 = .ok (.athrow, 1) := by decide +kernel
theorem dX9_impact_49 : decode cX9_impact 49 = .ok (.aload_n 0, 1) := by decide +kernel
theorem dX9_impact_50 : decode cX9_impact 50 = .ok (.getfield 23, 3) := by decide +kernel
theorem dX9_impact_53 : decode cX9_impact 53 = .ok (.invokevirtual 158, 3) := by decide +kernel
theorem dX9_impact_56 : decode cX9_impact 56 = .ok (.ifCond .eq 13, 3) := by decide +kernel
theorem dX9_impact_59 : decode cX9_impact 59 = .ok (.new 76, 3) := by decide +kernel
theorem dX9_impact_62 : decode cX9_impact 62 = .ok (.dup, 1) := by decide +kernel
theorem dX9_impact_63 : decode cX9_impact 63 = .ok (.ldc 168, 2) := by decide +kernel
theorem dX9_impact_65 : decode cX9_impact 65 = .ok (.invokespecial 80, 3) := by decide +kernel
theorem dX9_impact_68 : decode cX9_impact 68 = .ok (.athrow, 1) := by decide +kernel
theorem dX9_impact_69 : decode cX9_impact 69 = .ok (.aload_n 0, 1) := by decide +kernel
theorem dX9_impact_70 : decode cX9_impact 70 = .ok (.iconst 1, 1) := by decide +kernel
theorem dX9_impact_71 : decode cX9_impact 71 = .ok (.invokevirtual 161, 3) := by decide +kernel
theorem dX9_impact_74 : decode cX9_impact 74 = .ok (.aload_n 0, 1) := by decide +kernel
theorem dX9_impact_75 : decode cX9_impact 75 = .ok (.getfield 23, 3) := by decide +kernel
theorem dX9_impact_78 : decode cX9_impact 78 = .ok (.iload_n 1, 1) := by decide +kernel
theorem dX9_impact_79 : decode cX9_impact 79 = .ok (.iload_n 2, 1) := by decide +kernel
theorem dX9_impact_80 : decode cX9_impact 80 = .ok (.invokevirtual 164, 3) := by decide +kernel
theorem dX9_impact_83 : decode cX9_impact 83 = .ok (.ireturn, 1) := by decide +kernel
theorem dX9_vector_0 : decode cX9_vector 0 = .ok (.fload_n 1, 1) := by decide +kernel
theorem dX9_vector_1 : decode cX9_vector 1 = .ok (.fload_n 2, 1) := by decide +kernel
theorem dX9_vector_2 : decode cX9_vector 2 = .ok (.fload_n 3, 1) := by decide +kernel
theorem dX9_vector_3 : decode cX9_vector 3 = .ok (.fload 4, 2) := by decide +kernel
theorem dX9_vector_5 : decode cX9_vector 5 = .ok (.invokestatic 126, 3) := by decide +kernel
theorem dX9_vector_8 : decode cX9_vector 8 = .ok (.ifCond .ne 13, 3) := by decide +kernel
theorem dX9_vector_11 : decode cX9_vector 11 = .ok (.new 115, 3) := by decide +kernel
theorem dX9_vector_14 : decode cX9_vector 14 = .ok (.dup, 1) := by decide +kernel
theorem dX9_vector_15 : decode cX9_vector 15 = .ok (.ldc 130, 2) := by decide +kernel
theorem dX9_vector_17 : decode cX9_vector 17 = .ok (.invokespecial 119, 3) := by decide +kernel
theorem dX9_vector_20 : decode cX9_vector 20 = .ok (.athrow, 1) := by decide +kernel
theorem dX9_vector_21 : decode cX9_vector 21 = .ok (.aload_n 0, 1) := by decide +kernel
theorem dX9_vector_22 : decode cX9_vector 22 = .ok (.getfield 31, 3) := by decide +kernel
theorem dX9_vector_25 : decode cX9_vector 25 = .ok (.invokevirtual 136, 3) := by decide +kernel
theorem dX9_vector_28 : decode cX9_vector 28 = .ok (.ifCond .eq 13, 3) := by decide +kernel
theorem dX9_vector_31 : decode cX9_vector 31 = .ok (.new 76, 3) := by decide +kernel
theorem dX9_vector_34 : decode cX9_vector 34 = .ok (.dup, 1) := by decide +kernel
theorem dX9_vector_35 : decode cX9_vector 35 = .ok (.ldc 170, 2) := by decide +kernel
theorem dX9_vector_37 : decode cX9_vector 37 = .ok (.invokespecial 80, 3) := by decide +kernel
theorem dX9_vector_40 : decode cX9_vector 40 = .ok (.athrow, 1) := by decide +kernel
theorem dX9_vector_41 : decode cX9_vector 41 = .ok (.aload_n 0, 1) := by decide +kernel
theorem dX9_vector_42 : decode cX9_vector 42 = .ok (.iconst 2, 1) := by decide +kernel
theorem dX9_vector_43 : decode cX9_vector 43 = .ok (.invokevirtual 161, 3) := by decide +kernel
theorem dX9_vector_46 : decode cX9_vector 46 = .ok (.aload_n 0, 1) := by decide +kernel
theorem dX9_vector_47 : decode cX9_vector 47 = .ok (.getfield 31, 3) := by decide +kernel
theorem dX9_vector_50 : decode cX9_vector 50 = .ok (.fload_n 1, 1) := by decide +kernel
theorem dX9_vector_51 : decode cX9_vector 51 = .ok (.fload_n 2, 1) := by decide +kernel
theorem dX9_vector_52 : decode cX9_vector 52 = .ok (.fload_n 3, 1) := by decide +kernel
theorem dX9_vector_53 : decode cX9_vector 53 = .ok (.fload 4, 2) := by decide +kernel
theorem dX9_vector_55 : decode cX9_vector 55 = .ok (.invokevirtual 139, 3) := by decide +kernel
theorem dX9_vector_58 : decode cX9_vector 58 = .ok (.ireturn, 1) := by decide +kernel
theorem dX9_search_0 : decode cX9_search 0 = .ok (.iload_n 1, 1) := by decide +kernel
theorem dX9_search_1 : decode cX9_search 1 = .ok (.invokestatic 172, 3) := by decide +kernel
theorem dX9_search_4 : decode cX9_search 4 = .ok (.ifCond .eq 11, 3) := by decide +kernel
theorem dX9_search_7 : decode cX9_search 7 = .ok (.iload_n 1, 1) := by decide +kernel
theorem dX9_search_8 : decode cX9_search 8 = .ok (.iload_n 2, 1) := by decide +kernel
theorem dX9_search_9 : decode cX9_search 9 = .ok (.invokestatic 175, 3) := by decide +kernel
theorem dX9_search_12 : decode cX9_search 12 = .ok (.ifCond .ne 13, 3) := by decide +kernel
theorem dX9_search_15 : decode cX9_search 15 = .ok (.new 115, 3) := by decide +kernel
theorem dX9_search_18 : decode cX9_search 18 = .ok (.dup, 1) := by decide +kernel
theorem dX9_search_19 : decode cX9_search 19 = .ok (.ldc 179, 2) := by decide +kernel
theorem dX9_search_21 : decode cX9_search 21 = .ok (.invokespecial 119, 3) := by decide +kernel
theorem dX9_search_24 : decode cX9_search 24 = .ok (.athrow, 1) := by decide +kernel
theorem dX9_search_25 : decode cX9_search 25 = .ok (.iload_n 3, 1) := by decide +kernel
theorem dX9_search_26 : decode cX9_search 26 = .ok (.ifCond .lt 21, 3) := by decide +kernel
theorem dX9_search_29 : decode cX9_search 29 = .ok (.iload_n 3, 1) := by decide +kernel
theorem dX9_search_30 : decode cX9_search 30 = .ok (.bipush 20, 2) := by decide +kernel
theorem dX9_search_32 : decode cX9_search 32 = .ok (.if_icmp .gt 15, 3) := by decide +kernel
theorem dX9_search_35 : decode cX9_search 35 = .ok (.iload 4, 2) := by decide +kernel
theorem dX9_search_37 : decode cX9_search 37 = .ok (.iconst 1, 1) := by decide +kernel
theorem dX9_search_38 : decode cX9_search 38 = .ok (.if_icmp .lt 9, 3) := by decide +kernel
theorem dX9_search_41 : decode cX9_search 41 = .ok (.iload 4, 2) := by decide +kernel
theorem dX9_search_43 : decode cX9_search 43 = .ok (.iconst 3, 1) := by decide +kernel
theorem dX9_search_44 : decode cX9_search 44 = .ok (.if_icmp .le 13, 3) := by decide +kernel
theorem dX9_search_47 : decode cX9_search 47 = .ok (.new 115, 3) := by decide +kernel
theorem dX9_search_50 : decode cX9_search 50 = .ok (.dup, 1) := by decide +kernel
theorem dX9_search_51 : decode cX9_search 51 = .ok (.ldc 181, 2) := by decide +kernel
theorem dX9_search_53 : decode cX9_search 53 = .ok (.invokespecial 119, 3) := by decide +kernel
theorem dX9_search_56 : decode cX9_search 56 = .ok (.athrow, 1) := by decide +kernel
theorem dX9_search_57 : decode cX9_search 57 = .ok (.iload_n 2, 1) := by decide +kernel
theorem dX9_search_58 : decode cX9_search 58 = .ok (.iconst 2, 1) := by decide +kernel
theorem dX9_search_59 : decode cX9_search 59 = .ok (.if_icmp .ne 26, 3) := by decide +kernel
theorem dX9_search_62 : decode cX9_search 62 = .ok (.aload_n 0, 1) := by decide +kernel
theorem dX9_search_63 : decode cX9_search 63 = .ok (.getfield 12, 3) := by decide +kernel
theorem dX9_search_66 : decode cX9_search 66 = .ok (.invokevirtual 143, 3) := by decide +kernel
theorem dX9_search_69 : decode cX9_search 69 = .ok (.invokevirtual 183, 3) := by decide +kernel
theorem dX9_search_72 : decode cX9_search 72 = .ok (.ifCond .ne 13, 3) := by decide +kernel
theorem dX9_search_75 : decode cX9_search 75 = .ok (.new 76, 3) := by decide +kernel
theorem dX9_search_78 : decode cX9_search 78 = .ok (.dup, 1) := by decide +kernel
theorem dX9_search_79 : decode cX9_search 79 = .ok (.ldc 186, 2) := by decide +kernel
theorem dX9_search_81 : decode cX9_search 81 = .ok (.invokespecial 80, 3) := by decide +kernel
theorem dX9_search_84 : decode cX9_search 84 = .ok (.athrow, 1) := by decide +kernel
theorem dX9_search_85 : decode cX9_search 85 = .ok (.aload_n 0, 1) := by decide +kernel
theorem dX9_search_86 : decode cX9_search 86 = .ok (.getfield 68, 3) := by decide +kernel
theorem dX9_search_89 : decode cX9_search 89 = .ok (.invokevirtual 188, 3) := by decide +kernel
theorem dX9_search_92 : decode cX9_search 92 = .ok (.aload_n 0, 1) := by decide +kernel
theorem dX9_search_93 : decode cX9_search 93 = .ok (.iload_n 1, 1) := by decide +kernel
theorem dX9_search_94 : decode cX9_search 94 = .ok (.iload_n 2, 1) := by decide +kernel
theorem dX9_search_95 : decode cX9_search 95 = .ok (.iload_n 3, 1) := by decide +kernel
theorem dX9_search_96 : decode cX9_search 96 = .ok (.iload 4, 2) := by decide +kernel
theorem dX9_search_98 : decode cX9_search 98 = .ok (.invokevirtual 191, 3) := by decide +kernel
theorem dX9_search_101 : decode cX9_search 101 = .ok (.ireturn, 1) := by decide +kernel
theorem dX9_hit_0 : decode cX9_hit 0 = .ok (.aload_n 0, 1) := by decide +kernel
theorem dX9_hit_1 : decode cX9_hit 1 = .ok (.iload_n 1, 1) := by decide +kernel
theorem dX9_hit_2 : decode cX9_hit 2 = .ok (.iload_n 2, 1) := by decide +kernel
theorem dX9_hit_3 : decode cX9_hit 3 = .ok (.invokevirtual 195, 3) := by decide +kernel
theorem dX9_hit_6 : decode cX9_hit 6 = .ok (.invokevirtual 199, 3) := by decide +kernel
theorem dX9_hit_9 : decode cX9_hit 9 = .ok (.iload_n 2, 1) := by decide +kernel
theorem dX9_hit_10 : decode cX9_hit 10 = .ok (.invokevirtual 203, 3) := by decide +kernel
theorem dX9_hit_13 : decode cX9_hit 13 = .ok (.ireturn, 1) := by decide +kernel
theorem dX9_score_0 : decode cX9_score 0 = .ok (.aload_n 0, 1) := by decide +kernel
theorem dX9_score_1 : decode cX9_score 1 = .ok (.iload_n 1, 1) := by decide +kernel
theorem dX9_score_2 : decode cX9_score 2 = .ok (.iload_n 2, 1) := by decide +kernel
theorem dX9_score_3 : decode cX9_score 3 = .ok (.invokevirtual 195, 3) := by decide +kernel
theorem dX9_score_6 : decode cX9_score 6 = .ok (.invokevirtual 199, 3) := by decide +kernel
theorem dX9_score_9 : decode cX9_score 9 = .ok (.iload_n 2, 1) := by decide +kernel
theorem dX9_score_10 : decode cX9_score 10 = .ok (.invokevirtual 207, 3) := by decide +kernel
theorem dX9_score_13 : decode cX9_score 13 = .ok (.dreturn, 1) := by decide +kernel
theorem dX9_work_0 : decode cX9_work 0 = .ok (.iload_n 2, 1) := by decide +kernel
theorem dX9_work_1 : decode cX9_work 1 = .ok (.ifCond .eq 23, 3) := by decide +kernel
theorem dX9_work_4 : decode cX9_work 4 = .ok (.iload_n 2, 1) := by decide +kernel
theorem dX9_work_5 : decode cX9_work 5 = .ok (.iconst 1, 1) := by decide +kernel
theorem dX9_work_6 : decode cX9_work 6 = .ok (.if_icmp .eq 18, 3) := by decide +kernel
theorem dX9_work_9 : decode cX9_work 9 = .ok (.iload_n 2, 1) := by decide +kernel
theorem dX9_work_10 : decode cX9_work 10 = .ok (.iconst 2, 1) := by decide +kernel
theorem dX9_work_11 : decode cX9_work 11 = .ok (.if_icmp .eq 13, 3) := by decide +kernel
theorem dX9_work_14 : decode cX9_work 14 = .ok (.new 115, 3) := by decide +kernel
theorem dX9_work_17 : decode cX9_work 17 = .ok (.dup, 1) := by decide +kernel
theorem dX9_work_18 : decode cX9_work 18 = .ok (.ldc 211, 2) := by decide +kernel
theorem dX9_work_20 : decode cX9_work 20 = .ok (.invokespecial 119, 3) := by decide +kernel
theorem dX9_work_23 : decode cX9_work 23 = .ok (.athrow, 1) := by decide +kernel
theorem dX9_work_24 : decode cX9_work 24 = .ok (.aload_n 0, 1) := by decide +kernel
theorem dX9_work_25 : decode cX9_work 25 = .ok (.iload_n 1, 1) := by decide +kernel
theorem dX9_work_26 : decode cX9_work 26 = .ok (.invokevirtual 213, 3) := by decide +kernel
theorem dX9_work_29 : decode cX9_work 29 = .ok (.astore_n 3, 1) := by decide +kernel
theorem dX9_work_30 : decode cX9_work 30 = .ok (.iload_n 2, 1) := by decide +kernel
theorem dX9_work_31 : decode cX9_work 31 = .ok (.lookupswitch 35 #[(0, 25), (1, 30)], 25) := by decide +kernel
theorem dX9_work_56 : decode cX9_work 56 = .ok (.aload_n 3, 1) := by decide +kernel
theorem dX9_work_57 : decode cX9_work 57 = .ok (.invokevirtual 217, 3) := by decide +kernel
theorem dX9_work_60 : decode cX9_work 60 = .ok (.ireturn, 1) := by decide +kernel
theorem dX9_work_61 : decode cX9_work 61 = .ok (.aload_n 3, 1) := by decide +kernel
theorem dX9_work_62 : decode cX9_work 62 = .ok (.invokevirtual 220, 3) := by decide +kernel
theorem dX9_work_65 : decode cX9_work 65 = .ok (.ireturn, 1) := by decide +kernel
theorem dX9_work_66 : decode cX9_work 66 = .ok (.aload_n 3, 1) := by decide +kernel
theorem dX9_work_67 : decode cX9_work 67 = .ok (.invokevirtual 223, 3) := by decide +kernel
theorem dX9_work_70 : decode cX9_work 70 = .ok (.ireturn, 1) := by decide +kernel
theorem dX9_fuse_0 : decode cX9_fuse 0 = .ok (.iload_n 1, 1) := by decide +kernel
theorem dX9_fuse_1 : decode cX9_fuse 1 = .ok (.ifCond .eq 23, 3) := by decide +kernel
theorem dX9_fuse_4 : decode cX9_fuse 4 = .ok (.iload_n 1, 1) := by decide +kernel
theorem dX9_fuse_5 : decode cX9_fuse 5 = .ok (.iconst 1, 1) := by decide +kernel
theorem dX9_fuse_6 : decode cX9_fuse 6 = .ok (.if_icmp .eq 18, 3) := by decide +kernel
theorem dX9_fuse_9 : decode cX9_fuse 9 = .ok (.iload_n 1, 1) := by decide +kernel
theorem dX9_fuse_10 : decode cX9_fuse 10 = .ok (.iconst 2, 1) := by decide +kernel
theorem dX9_fuse_11 : decode cX9_fuse 11 = .ok (.if_icmp .eq 13, 3) := by decide +kernel
theorem dX9_fuse_14 : decode cX9_fuse 14 = .ok (.new 115, 3) := by decide +kernel
theorem dX9_fuse_17 : decode cX9_fuse 17 = .ok (.dup, 1) := by decide +kernel
theorem dX9_fuse_18 : decode cX9_fuse 18 = .ok (.ldc 226, 2) := by decide +kernel
theorem dX9_fuse_20 : decode cX9_fuse 20 = .ok (.invokespecial 119, 3) := by decide +kernel
theorem dX9_fuse_23 : decode cX9_fuse 23 = .ok (.athrow, 1) := by decide +kernel
theorem dX9_fuse_24 : decode cX9_fuse 24 = .ok (.aload_n 0, 1) := by decide +kernel
theorem dX9_fuse_25 : decode cX9_fuse 25 = .ok (.invokevirtual 228, 3) := by decide +kernel
theorem dX9_fuse_28 : decode cX9_fuse 28 = .ok (.ifCond .ne 13, 3) := by decide +kernel
theorem dX9_fuse_31 : decode cX9_fuse 31 = .ok (.new 76, 3) := by decide +kernel
theorem dX9_fuse_34 : decode cX9_fuse 34 = .ok (.dup, 1) := by decide +kernel
theorem dX9_fuse_35 : decode cX9_fuse 35 = .ok (.ldc 231, 2) := by decide +kernel
theorem dX9_fuse_37 : decode cX9_fuse 37 = .ok (.invokespecial 80, 3) := by decide +kernel
theorem dX9_fuse_40 : decode cX9_fuse 40 = .ok (.athrow, 1) := by decide +kernel
theorem dX9_fuse_41 : decode cX9_fuse 41 = .ok (.aload_n 0, 1) := by decide +kernel
theorem dX9_fuse_42 : decode cX9_fuse 42 = .ok (.getfield 68, 3) := by decide +kernel
theorem dX9_fuse_45 : decode cX9_fuse 45 = .ok (.aload_n 0, 1) := by decide +kernel
theorem dX9_fuse_46 : decode cX9_fuse 46 = .ok (.getfield 60, 3) := by decide +kernel
theorem dX9_fuse_49 : decode cX9_fuse 49 = .ok (.iload_n 1, 1) := by decide +kernel
theorem dX9_fuse_50 : decode cX9_fuse 50 = .ok (.invokevirtual 233, 3) := by decide +kernel
theorem dX9_fuse_53 : decode cX9_fuse 53 = .ok (.ireturn, 1) := by decide +kernel
theorem dX9_fused_0 : decode cX9_fused 0 = .ok (.aload_n 0, 1) := by decide +kernel
theorem dX9_fused_1 : decode cX9_fused 1 = .ok (.getfield 68, 3) := by decide +kernel
theorem dX9_fused_4 : decode cX9_fused 4 = .ok (.invokevirtual 237, 3) := by decide +kernel
theorem dX9_fused_7 : decode cX9_fused 7 = .ok (.iload_n 1, 1) := by decide +kernel
theorem dX9_fused_8 : decode cX9_fused 8 = .ok (.invokevirtual 238, 3) := by decide +kernel
theorem dX9_fused_11 : decode cX9_fused 11 = .ok (.ifCond .ne 13, 3) := by decide +kernel
theorem dX9_fused_14 : decode cX9_fused 14 = .ok (.new 97, 3) := by decide +kernel
theorem dX9_fused_17 : decode cX9_fused 17 = .ok (.dup, 1) := by decide +kernel
theorem dX9_fused_18 : decode cX9_fused 18 = .ok (.ldc 241, 2) := by decide +kernel
theorem dX9_fused_20 : decode cX9_fused 20 = .ok (.invokespecial 101, 3) := by decide +kernel
theorem dX9_fused_23 : decode cX9_fused 23 = .ok (.athrow, 1) := by decide +kernel
theorem dX9_fused_24 : decode cX9_fused 24 = .ok (.aload_n 0, 1) := by decide +kernel
theorem dX9_fused_25 : decode cX9_fused 25 = .ok (.getfield 68, 3) := by decide +kernel
theorem dX9_fused_28 : decode cX9_fused 28 = .ok (.invokevirtual 237, 3) := by decide +kernel
theorem dX9_fused_31 : decode cX9_fused 31 = .ok (.iload_n 1, 1) := by decide +kernel
theorem dX9_fused_32 : decode cX9_fused 32 = .ok (.invokevirtual 203, 3) := by decide +kernel
theorem dX9_fused_35 : decode cX9_fused 35 = .ok (.ireturn, 1) := by decide +kernel
theorem dX9_rating_0 : decode cX9_rating 0 = .ok (.aload_n 0, 1) := by decide +kernel
theorem dX9_rating_1 : decode cX9_rating 1 = .ok (.getfield 68, 3) := by decide +kernel
theorem dX9_rating_4 : decode cX9_rating 4 = .ok (.invokevirtual 237, 3) := by decide +kernel
theorem dX9_rating_7 : decode cX9_rating 7 = .ok (.iload_n 1, 1) := by decide +kernel
theorem dX9_rating_8 : decode cX9_rating 8 = .ok (.invokevirtual 238, 3) := by decide +kernel
theorem dX9_rating_11 : decode cX9_rating 11 = .ok (.ifCond .ne 13, 3) := by decide +kernel
theorem dX9_rating_14 : decode cX9_rating 14 = .ok (.new 97, 3) := by decide +kernel
theorem dX9_rating_17 : decode cX9_rating 17 = .ok (.dup, 1) := by decide +kernel
theorem dX9_rating_18 : decode cX9_rating 18 = .ok (.ldc 241, 2) := by decide +kernel
theorem dX9_rating_20 : decode cX9_rating 20 = .ok (.invokespecial 101, 3) := by decide +kernel
theorem dX9_rating_23 : decode cX9_rating 23 = .ok (.athrow, 1) := by decide +kernel
theorem dX9_rating_24 : decode cX9_rating 24 = .ok (.aload_n 0, 1) := by decide +kernel
theorem dX9_rating_25 : decode cX9_rating 25 = .ok (.getfield 68, 3) := by decide +kernel
theorem dX9_rating_28 : decode cX9_rating 28 = .ok (.invokevirtual 237, 3) := by decide +kernel
theorem dX9_rating_31 : decode cX9_rating 31 = .ok (.iload_n 1, 1) := by decide +kernel
theorem dX9_rating_32 : decode cX9_rating 32 = .ok (.invokevirtual 207, 3) := by decide +kernel
theorem dX9_rating_35 : decode cX9_rating 35 = .ok (.dreturn, 1) := by decide +kernel
theorem dX9_log_0 : decode cX9_log 0 = .ok (.dload_n 1, 1) := by decide +kernel
theorem dX9_log_1 : decode cX9_log 1 = .ok (.dconst 1, 1) := by decide +kernel
theorem dX9_log_2 : decode cX9_log 2 = .ok (.dcmp .l, 1) := by decide +kernel
theorem dX9_log_3 : decode cX9_log 3 = .ok (.ifCond .lt 18, 3) := by decide +kernel
theorem dX9_log_6 : decode cX9_log 6 = .ok (.dload_n 1, 1) := by decide +kernel
theorem dX9_log_7 : decode cX9_log 7 = .ok (.ldc2_w 243, 3) := by decide +kernel
theorem dX9_log_10 : decode cX9_log 10 = .ok (.dcmp .g, 1) := by decide +kernel
theorem dX9_log_11 : decode cX9_log 11 = .ok (.ifCond .gt 10, 3) := by decide +kernel
theorem dX9_log_14 : decode cX9_log 14 = .ok (.dload_n 1, 1) := by decide +kernel
theorem dX9_log_15 : decode cX9_log 15 = .ok (.invokestatic 245, 3) := by decide +kernel
theorem dX9_log_18 : decode cX9_log 18 = .ok (.goto 6, 3) := by decide +kernel
theorem dX9_log_21 : decode cX9_log 21 = .ok (.ldc2_w 249, 3) := by decide +kernel
theorem dX9_log_24 : decode cX9_log 24 = .ok (.dreturn, 1) := by decide +kernel
theorem dX9_quantised_0 : decode cX9_quantised 0 = .ok (.aload_n 0, 1) := by decide +kernel
theorem dX9_quantised_1 : decode cX9_quantised 1 = .ok (.getfield 12, 3) := by decide +kernel
theorem dX9_quantised_4 : decode cX9_quantised 4 = .ok (.iload_n 1, 1) := by decide +kernel
theorem dX9_quantised_5 : decode cX9_quantised 5 = .ok (.invokevirtual 90, 3) := by decide +kernel
theorem dX9_quantised_8 : decode cX9_quantised 8 = .ok (.ifCond .eq 10, 3) := by decide +kernel
theorem dX9_quantised_11 : decode cX9_quantised 11 = .ok (.iload_n 2, 1) := by decide +kernel
theorem dX9_quantised_12 : decode cX9_quantised 12 = .ok (.invokestatic 94, 3) := by decide +kernel
theorem dX9_quantised_15 : decode cX9_quantised 15 = .ok (.ifCond .ne 13, 3) := by decide +kernel
theorem dX9_quantised_18 : decode cX9_quantised 18 = .ok (.new 97, 3) := by decide +kernel
theorem dX9_quantised_21 : decode cX9_quantised 21 = .ok (.dup, 1) := by decide +kernel
theorem dX9_quantised_22 : decode cX9_quantised 22 = .ok (.ldc 99, 2) := by decide +kernel
theorem dX9_quantised_24 : decode cX9_quantised 24 = .ok (.invokespecial 101, 3) := by decide +kernel
theorem dX9_quantised_27 : decode cX9_quantised 27 = .ok (.athrow, 1) := by decide +kernel
theorem dX9_quantised_28 : decode cX9_quantised 28 = .ok (.aload_n 0, 1) := by decide +kernel
theorem dX9_quantised_29 : decode cX9_quantised 29 = .ok (.getfield 12, 3) := by decide +kernel
theorem dX9_quantised_32 : decode cX9_quantised 32 = .ok (.iload_n 1, 1) := by decide +kernel
theorem dX9_quantised_33 : decode cX9_quantised 33 = .ok (.iload_n 2, 1) := by decide +kernel
theorem dX9_quantised_34 : decode cX9_quantised 34 = .ok (.aload_n 0, 1) := by decide +kernel
theorem dX9_quantised_35 : decode cX9_quantised 35 = .ok (.getfield 12, 3) := by decide +kernel
theorem dX9_quantised_38 : decode cX9_quantised 38 = .ok (.invokevirtual 251, 3) := by decide +kernel
theorem dX9_quantised_41 : decode cX9_quantised 41 = .ok (.invokevirtual 255, 3) := by decide +kernel
theorem dX9_quantised_44 : decode cX9_quantised 44 = .ok (.ireturn, 1) := by decide +kernel
theorem dX9_isTerm_0 : decode cX9_isTerm 0 = .ok (.iload_n 0, 1) := by decide +kernel
theorem dX9_isTerm_1 : decode cX9_isTerm 1 = .ok (.ifCond .lt 13, 3) := by decide +kernel
theorem dX9_isTerm_4 : decode cX9_isTerm 4 = .ok (.iload_n 0, 1) := by decide +kernel
theorem dX9_isTerm_5 : decode cX9_isTerm 5 = .ok (.bipush 12, 2) := by decide +kernel
theorem dX9_isTerm_7 : decode cX9_isTerm 7 = .ok (.if_icmp .ge 7, 3) := by decide +kernel
theorem dX9_isTerm_10 : decode cX9_isTerm 10 = .ok (.iconst 1, 1) := by decide +kernel
theorem dX9_isTerm_11 : decode cX9_isTerm 11 = .ok (.goto 4, 3) := by decide +kernel
theorem dX9_isTerm_14 : decode cX9_isTerm 14 = .ok (.iconst 0, 1) := by decide +kernel
theorem dX9_isTerm_15 : decode cX9_isTerm 15 = .ok (.ireturn, 1) := by decide +kernel
theorem dX9_isView_0 : decode cX9_isView 0 = .ok (.iload_n 0, 1) := by decide +kernel
theorem dX9_isView_1 : decode cX9_isView 1 = .ok (.ifCond .lt 12, 3) := by decide +kernel
theorem dX9_isView_4 : decode cX9_isView 4 = .ok (.iload_n 0, 1) := by decide +kernel
theorem dX9_isView_5 : decode cX9_isView 5 = .ok (.iconst 3, 1) := by decide +kernel
theorem dX9_isView_6 : decode cX9_isView 6 = .ok (.if_icmp .ge 7, 3) := by decide +kernel
theorem dX9_isView_9 : decode cX9_isView 9 = .ok (.iconst 1, 1) := by decide +kernel
theorem dX9_isView_10 : decode cX9_isView 10 = .ok (.goto 4, 3) := by decide +kernel
theorem dX9_isView_13 : decode cX9_isView 13 = .ok (.iconst 0, 1) := by decide +kernel
theorem dX9_isView_14 : decode cX9_isView 14 = .ok (.ireturn, 1) := by decide +kernel
theorem dX9_isMadeHow_0 : decode cX9_isMadeHow 0 = .ok (.iload_n 1, 1) := by decide +kernel
theorem dX9_isMadeHow_1 : decode cX9_isMadeHow 1 = .ok (.ifCond .eq 17, 3) := by decide +kernel
theorem dX9_isMadeHow_4 : decode cX9_isMadeHow 4 = .ok (.iload_n 1, 1) := by decide +kernel
theorem dX9_isMadeHow_5 : decode cX9_isMadeHow 5 = .ok (.iload_n 0, 1) := by decide +kernel
theorem dX9_isMadeHow_6 : decode cX9_isMadeHow 6 = .ok (.iconst 2, 1) := by decide +kernel
theorem dX9_isMadeHow_7 : decode cX9_isMadeHow 7 = .ok (.if_icmp .ne 7, 3) := by decide +kernel
theorem dX9_isMadeHow_10 : decode cX9_isMadeHow 10 = .ok (.iconst 2, 1) := by decide +kernel
theorem dX9_isMadeHow_11 : decode cX9_isMadeHow 11 = .ok (.goto 4, 3) := by decide +kernel
theorem dX9_isMadeHow_14 : decode cX9_isMadeHow 14 = .ok (.iconst 1, 1) := by decide +kernel
theorem dX9_isMadeHow_15 : decode cX9_isMadeHow 15 = .ok (.if_icmp .ne 7, 3) := by decide +kernel
theorem dX9_isMadeHow_18 : decode cX9_isMadeHow 18 = .ok (.iconst 1, 1) := by decide +kernel
theorem dX9_isMadeHow_19 : decode cX9_isMadeHow 19 = .ok (.goto 4, 3) := by decide +kernel
theorem dX9_isMadeHow_22 : decode cX9_isMadeHow 22 = .ok (.iconst 0, 1) := by decide +kernel
theorem dX9_isMadeHow_23 : decode cX9_isMadeHow 23 = .ok (.ireturn, 1) := by decide +kernel
theorem dX9_isAllowed_0 : decode cX9_isAllowed 0 = .ok (.fload_n 0, 1) := by decide +kernel
theorem dX9_isAllowed_1 : decode cX9_isAllowed 1 = .ok (.ldc_w 259, 3) := by decide +kernel
theorem dX9_isAllowed_4 : decode cX9_isAllowed 4 = .ok (.fcmp .l, 1) := by decide +kernel
theorem dX9_isAllowed_5 : decode cX9_isAllowed 5 = .ok (.ifCond .lt 15, 3) := by decide +kernel
theorem dX9_isAllowed_8 : decode cX9_isAllowed 8 = .ok (.fload_n 0, 1) := by decide +kernel
theorem dX9_isAllowed_9 : decode cX9_isAllowed 9 = .ok (.ldc_w 260, 3) := by decide +kernel
theorem dX9_isAllowed_12 : decode cX9_isAllowed 12 = .ok (.fcmp .g, 1) := by decide +kernel
theorem dX9_isAllowed_13 : decode cX9_isAllowed 13 = .ok (.ifCond .gt 7, 3) := by decide +kernel
theorem dX9_isAllowed_16 : decode cX9_isAllowed 16 = .ok (.iconst 1, 1) := by decide +kernel
theorem dX9_isAllowed_17 : decode cX9_isAllowed 17 = .ok (.goto 4, 3) := by decide +kernel
theorem dX9_isAllowed_20 : decode cX9_isAllowed 20 = .ok (.iconst 0, 1) := by decide +kernel
theorem dX9_isAllowed_21 : decode cX9_isAllowed 21 = .ok (.ireturn, 1) := by decide +kernel
theorem dX9_areAllowed_0 : decode cX9_areAllowed 0 = .ok (.fload_n 0, 1) := by decide +kernel
theorem dX9_areAllowed_1 : decode cX9_areAllowed 1 = .ok (.invokestatic 111, 3) := by decide +kernel
theorem dX9_areAllowed_4 : decode cX9_areAllowed 4 = .ok (.ifCond .eq 28, 3) := by decide +kernel
theorem dX9_areAllowed_7 : decode cX9_areAllowed 7 = .ok (.fload_n 1, 1) := by decide +kernel
theorem dX9_areAllowed_8 : decode cX9_areAllowed 8 = .ok (.invokestatic 111, 3) := by decide +kernel
theorem dX9_areAllowed_11 : decode cX9_areAllowed 11 = .ok (.ifCond .eq 21, 3) := by decide +kernel
theorem dX9_areAllowed_14 : decode cX9_areAllowed 14 = .ok (.fload_n 2, 1) := by decide +kernel
theorem dX9_areAllowed_15 : decode cX9_areAllowed 15 = .ok (.invokestatic 111, 3) := by decide +kernel
theorem dX9_areAllowed_18 : decode cX9_areAllowed 18 = .ok (.ifCond .eq 14, 3) := by decide +kernel
theorem dX9_areAllowed_21 : decode cX9_areAllowed 21 = .ok (.fload_n 3, 1) := by decide +kernel
theorem dX9_areAllowed_22 : decode cX9_areAllowed 22 = .ok (.invokestatic 111, 3) := by decide +kernel
theorem dX9_areAllowed_25 : decode cX9_areAllowed 25 = .ok (.ifCond .eq 7, 3) := by decide +kernel
theorem dX9_areAllowed_28 : decode cX9_areAllowed 28 = .ok (.iconst 1, 1) := by decide +kernel
theorem dX9_areAllowed_29 : decode cX9_areAllowed 29 = .ok (.goto 4, 3) := by decide +kernel
theorem dX9_areAllowed_32 : decode cX9_areAllowed 32 = .ok (.iconst 0, 1) := by decide +kernel
theorem dX9_areAllowed_33 : decode cX9_areAllowed 33 = .ok (.ireturn, 1) := by decide +kernel
theorem dX9_forgetAllLists_0 : decode cX9_forgetAllLists 0 = .ok (.iconst 0, 1) := by decide +kernel
theorem dX9_forgetAllLists_1 : decode cX9_forgetAllLists 1 = .ok (.istore_n 1, 1) := by decide +kernel
theorem dX9_forgetAllLists_2 : decode cX9_forgetAllLists 2 = .ok (.iload_n 1, 1) := by decide +kernel
theorem dX9_forgetAllLists_3 : decode cX9_forgetAllLists 3 = .ok (.iconst 3, 1) := by decide +kernel
theorem dX9_forgetAllLists_4 : decode cX9_forgetAllLists 4 = .ok (.if_icmp .ge 14, 3) := by decide +kernel
theorem dX9_forgetAllLists_7 : decode cX9_forgetAllLists 7 = .ok (.aload_n 0, 1) := by decide +kernel
theorem dX9_forgetAllLists_8 : decode cX9_forgetAllLists 8 = .ok (.iload_n 1, 1) := by decide +kernel
theorem dX9_forgetAllLists_9 : decode cX9_forgetAllLists 9 = .ok (.invokevirtual 161, 3) := by decide +kernel
theorem dX9_forgetAllLists_12 : decode cX9_forgetAllLists 12 = .ok (.iinc 1 1, 3) := by decide +kernel
theorem dX9_forgetAllLists_15 : decode cX9_forgetAllLists 15 = .ok (.goto (-13), 3) := by decide +kernel
theorem dX9_forgetAllLists_18 : decode cX9_forgetAllLists 18 = .ok (.return_, 1) := by decide +kernel
theorem dX9_forgetList_0 : decode cX9_forgetList 0 = .ok (.aload_n 0, 1) := by decide +kernel
theorem dX9_forgetList_1 : decode cX9_forgetList 1 = .ok (.getfield 60, 3) := by decide +kernel
theorem dX9_forgetList_4 : decode cX9_forgetList 4 = .ok (.iload_n 1, 1) := by decide +kernel
theorem dX9_forgetList_5 : decode cX9_forgetList 5 = .ok (.aaload, 1) := by decide +kernel
theorem dX9_forgetList_6 : decode cX9_forgetList 6 = .ok (.invokevirtual 261, 3) := by decide +kernel
theorem dX9_forgetList_9 : decode cX9_forgetList 9 = .ok (.aload_n 0, 1) := by decide +kernel
theorem dX9_forgetList_10 : decode cX9_forgetList 10 = .ok (.getfield 68, 3) := by decide +kernel
theorem dX9_forgetList_13 : decode cX9_forgetList 13 = .ok (.invokevirtual 188, 3) := by decide +kernel
theorem dX9_forgetList_16 : decode cX9_forgetList 16 = .ok (.return_, 1) := by decide +kernel
theorem dX9_isAnyListMade_0 : decode cX9_isAnyListMade 0 = .ok (.iconst 0, 1) := by decide +kernel
theorem dX9_isAnyListMade_1 : decode cX9_isAnyListMade 1 = .ok (.istore_n 1, 1) := by decide +kernel
theorem dX9_isAnyListMade_2 : decode cX9_isAnyListMade 2 = .ok (.iload_n 1, 1) := by decide +kernel
theorem dX9_isAnyListMade_3 : decode cX9_isAnyListMade 3 = .ok (.iconst 3, 1) := by decide +kernel
theorem dX9_isAnyListMade_4 : decode cX9_isAnyListMade 4 = .ok (.if_icmp .ge 23, 3) := by decide +kernel
theorem dX9_isAnyListMade_7 : decode cX9_isAnyListMade 7 = .ok (.aload_n 0, 1) := by decide +kernel
theorem dX9_isAnyListMade_8 : decode cX9_isAnyListMade 8 = .ok (.getfield 60, 3) := by decide +kernel
theorem dX9_isAnyListMade_11 : decode cX9_isAnyListMade 11 = .ok (.iload_n 1, 1) := by decide +kernel
theorem dX9_isAnyListMade_12 : decode cX9_isAnyListMade 12 = .ok (.aaload, 1) := by decide +kernel
theorem dX9_isAnyListMade_13 : decode cX9_isAnyListMade 13 = .ok (.invokevirtual 262, 3) := by decide +kernel
theorem dX9_isAnyListMade_16 : decode cX9_isAnyListMade 16 = .ok (.ifCond .eq 5, 3) := by decide +kernel
theorem dX9_isAnyListMade_19 : decode cX9_isAnyListMade 19 = .ok (.iconst 1, 1) := by decide +kernel
theorem dX9_isAnyListMade_20 : decode cX9_isAnyListMade 20 = .ok (.ireturn, 1) := by decide +kernel
theorem dX9_isAnyListMade_21 : decode cX9_isAnyListMade 21 = .ok (.iinc 1 1, 3) := by decide +kernel
theorem dX9_isAnyListMade_24 : decode cX9_isAnyListMade 24 = .ok (.goto (-22), 3) := by decide +kernel
theorem dX9_isAnyListMade_27 : decode cX9_isAnyListMade 27 = .ok (.iconst 0, 1) := by decide +kernel
theorem dX9_isAnyListMade_28 : decode cX9_isAnyListMade 28 = .ok (.ireturn, 1) := by decide +kernel
theorem dX9_madeList_0 : decode cX9_madeList 0 = .ok (.iload_n 1, 1) := by decide +kernel
theorem dX9_madeList_1 : decode cX9_madeList 1 = .ok (.invokestatic 172, 3) := by decide +kernel
theorem dX9_madeList_4 : decode cX9_madeList 4 = .ok (.ifCond .ne 14, 3) := by decide +kernel
theorem dX9_madeList_7 : decode cX9_madeList 7 = .ok (.new 115, 3) := by decide +kernel
theorem dX9_madeList_10 : decode cX9_madeList 10 = .ok (.dup, 1) := by decide +kernel
theorem dX9_madeList_11 : decode cX9_madeList 11 = .ok (.ldc_w 265, 3) := by decide +kernel
theorem dX9_madeList_14 : decode cX9_madeList 14 = .ok (.invokespecial 119, 3) := by decide +kernel
theorem dX9_madeList_17 : decode cX9_madeList 17 = .ok (.athrow, 1) := by decide +kernel
theorem dX9_madeList_18 : decode cX9_madeList 18 = .ok (.aload_n 0, 1) := by decide +kernel
theorem dX9_madeList_19 : decode cX9_madeList 19 = .ok (.getfield 60, 3) := by decide +kernel
theorem dX9_madeList_22 : decode cX9_madeList 22 = .ok (.iload_n 1, 1) := by decide +kernel
theorem dX9_madeList_23 : decode cX9_madeList 23 = .ok (.aaload, 1) := by decide +kernel
theorem dX9_madeList_24 : decode cX9_madeList 24 = .ok (.invokevirtual 262, 3) := by decide +kernel
theorem dX9_madeList_27 : decode cX9_madeList 27 = .ok (.ifCond .ne 14, 3) := by decide +kernel
theorem dX9_madeList_30 : decode cX9_madeList 30 = .ok (.new 267, 3) := by decide +kernel
theorem dX9_madeList_33 : decode cX9_madeList 33 = .ok (.dup, 1) := by decide +kernel
theorem dX9_madeList_34 : decode cX9_madeList 34 = .ok (.ldc_w 269, 3) := by decide +kernel
theorem dX9_madeList_37 : decode cX9_madeList 37 = .ok (.invokespecial 271, 3) := by decide +kernel
theorem dX9_madeList_40 : decode cX9_madeList 40 = .ok (.athrow, 1) := by decide +kernel
theorem dX9_madeList_41 : decode cX9_madeList 41 = .ok (.aload_n 0, 1) := by decide +kernel
theorem dX9_madeList_42 : decode cX9_madeList 42 = .ok (.getfield 60, 3) := by decide +kernel
theorem dX9_madeList_45 : decode cX9_madeList 45 = .ok (.iload_n 1, 1) := by decide +kernel
theorem dX9_madeList_46 : decode cX9_madeList 46 = .ok (.aaload, 1) := by decide +kernel
theorem dX9_madeList_47 : decode cX9_madeList 47 = .ok (.areturn, 1) := by decide +kernel
theorem dX9_listWithPlace_0 : decode cX9_listWithPlace 0 = .ok (.aload_n 0, 1) := by decide +kernel
theorem dX9_listWithPlace_1 : decode cX9_listWithPlace 1 = .ok (.iload_n 1, 1) := by decide +kernel
theorem dX9_listWithPlace_2 : decode cX9_listWithPlace 2 = .ok (.invokevirtual 213, 3) := by decide +kernel
theorem dX9_listWithPlace_5 : decode cX9_listWithPlace 5 = .ok (.astore_n 3, 1) := by decide +kernel
theorem dX9_listWithPlace_6 : decode cX9_listWithPlace 6 = .ok (.aload_n 3, 1) := by decide +kernel
theorem dX9_listWithPlace_7 : decode cX9_listWithPlace 7 = .ok (.invokevirtual 199, 3) := by decide +kernel
theorem dX9_listWithPlace_10 : decode cX9_listWithPlace 10 = .ok (.iload_n 2, 1) := by decide +kernel
theorem dX9_listWithPlace_11 : decode cX9_listWithPlace 11 = .ok (.invokevirtual 238, 3) := by decide +kernel
theorem dX9_listWithPlace_14 : decode cX9_listWithPlace 14 = .ok (.ifCond .ne 13, 3) := by decide +kernel
theorem dX9_listWithPlace_17 : decode cX9_listWithPlace 17 = .ok (.new 97, 3) := by decide +kernel
theorem dX9_listWithPlace_20 : decode cX9_listWithPlace 20 = .ok (.dup, 1) := by decide +kernel
theorem dX9_listWithPlace_21 : decode cX9_listWithPlace 21 = .ok (.ldc 241, 2) := by decide +kernel
theorem dX9_listWithPlace_23 : decode cX9_listWithPlace 23 = .ok (.invokespecial 101, 3) := by decide +kernel
theorem dX9_listWithPlace_26 : decode cX9_listWithPlace 26 = .ok (.athrow, 1) := by decide +kernel
theorem dX9_listWithPlace_27 : decode cX9_listWithPlace 27 = .ok (.aload_n 3, 1) := by decide +kernel
theorem dX9_listWithPlace_28 : decode cX9_listWithPlace 28 = .ok (.areturn, 1) := by decide +kernel
theorem dX9_makeList_0 : decode cX9_makeList 0 = .ok (.aload_n 0, 1) := by decide +kernel
theorem dX9_makeList_1 : decode cX9_makeList 1 = .ok (.iload_n 1, 1) := by decide +kernel
theorem dX9_makeList_2 : decode cX9_makeList 2 = .ok (.iload_n 2, 1) := by decide +kernel
theorem dX9_makeList_3 : decode cX9_makeList 3 = .ok (.invokevirtual 272, 3) := by decide +kernel
theorem dX9_makeList_6 : decode cX9_makeList 6 = .ok (.astore 5, 2) := by decide +kernel
theorem dX9_makeList_8 : decode cX9_makeList 8 = .ok (.aload_n 0, 1) := by decide +kernel
theorem dX9_makeList_9 : decode cX9_makeList 9 = .ok (.getfield 60, 3) := by decide +kernel
theorem dX9_makeList_12 : decode cX9_makeList 12 = .ok (.iload_n 1, 1) := by decide +kernel
theorem dX9_makeList_13 : decode cX9_makeList 13 = .ok (.aaload, 1) := by decide +kernel
theorem dX9_makeList_14 : decode cX9_makeList 14 = .ok (.astore 6, 2) := by decide +kernel
