theorem dX0_init_0 : decode cX0_init 0 = .ok (.aload_n 0, 1) := by decide +kernel
theorem dX0_init_1 : decode cX0_init 1 = .ok (.invokespecial 3, 3) := by decide +kernel
theorem dX0_init_4 : decode cX0_init 4 = .ok (.aload_n 0, 1) := by decide +kernel
theorem dX0_init_5 : decode cX0_init 5 = .ok (.bipush 16, 2) := by decide +kernel
theorem dX0_init_7 : decode cX0_init 7 = .ok (.bipush 12, 2) := by decide +kernel
theorem dX0_init_9 : decode cX0_init 9 = .ok (.multianewarray 9 2, 4) := by decide +kernel
theorem dX0_init_13 : decode cX0_init 13 = .ok (.putfield 11, 3) := by decide +kernel
theorem dX0_init_16 : decode cX0_init 16 = .ok (.aload_n 0, 1) := by decide +kernel
theorem dX0_init_17 : decode cX0_init 17 = .ok (.bipush 16, 2) := by decide +kernel
theorem dX0_init_19 : decode cX0_init 19 = .ok (.newarray .int, 2) := by decide +kernel
theorem dX0_init_21 : decode cX0_init 21 = .ok (.putfield 16, 3) := by decide +kernel
theorem dX0_init_24 : decode cX0_init 24 = .ok (.aload_n 0, 1) := by decide +kernel
theorem dX0_init_25 : decode cX0_init 25 = .ok (.bipush 16, 2) := by decide +kernel
theorem dX0_init_27 : decode cX0_init 27 = .ok (.bipush 12, 2) := by decide +kernel
theorem dX0_init_29 : decode cX0_init 29 = .ok (.multianewarray 20 2, 4) := by decide +kernel
theorem dX0_init_33 : decode cX0_init 33 = .ok (.putfield 22, 3) := by decide +kernel
theorem dX0_init_36 : decode cX0_init 36 = .ok (.aload_n 0, 1) := by decide +kernel
theorem dX0_init_37 : decode cX0_init 37 = .ok (.bipush 16, 2) := by decide +kernel
theorem dX0_init_39 : decode cX0_init 39 = .ok (.anewarray 25, 3) := by decide +kernel
theorem dX0_init_42 : decode cX0_init 42 = .ok (.putfield 27, 3) := by decide +kernel
theorem dX0_init_45 : decode cX0_init 45 = .ok (.aload_n 0, 1) := by decide +kernel
theorem dX0_init_46 : decode cX0_init 46 = .ok (.new 25, 3) := by decide +kernel
theorem dX0_init_49 : decode cX0_init 49 = .ok (.dup, 1) := by decide +kernel
theorem dX0_init_50 : decode cX0_init 50 = .ok (.iconst 4, 1) := by decide +kernel
theorem dX0_init_51 : decode cX0_init 51 = .ok (.invokespecial 31, 3) := by decide +kernel
theorem dX0_init_54 : decode cX0_init 54 = .ok (.putfield 34, 3) := by decide +kernel
theorem dX0_init_57 : decode cX0_init 57 = .ok (.iconst 0, 1) := by decide +kernel
theorem dX0_init_58 : decode cX0_init 58 = .ok (.istore_n 1, 1) := by decide +kernel
theorem dX0_init_59 : decode cX0_init 59 = .ok (.iload_n 1, 1) := by decide +kernel
theorem dX0_init_60 : decode cX0_init 60 = .ok (.bipush 16, 2) := by decide +kernel
theorem dX0_init_62 : decode cX0_init 62 = .ok (.if_icmp .ge 23, 3) := by decide +kernel
theorem dX0_init_65 : decode cX0_init 65 = .ok (.aload_n 0, 1) := by decide +kernel
theorem dX0_init_66 : decode cX0_init 66 = .ok (.getfield 27, 3) := by decide +kernel
theorem dX0_init_69 : decode cX0_init 69 = .ok (.iload_n 1, 1) := by decide +kernel
theorem dX0_init_70 : decode cX0_init 70 = .ok (.new 25, 3) := by decide +kernel
theorem dX0_init_73 : decode cX0_init 73 = .ok (.dup, 1) := by decide +kernel
theorem dX0_init_74 : decode cX0_init 74 = .ok (.iconst 4, 1) := by decide +kernel
theorem dX0_init_75 : decode cX0_init 75 = .ok (.invokespecial 31, 3) := by decide +kernel
theorem dX0_init_78 : decode cX0_init 78 = .ok (.aastore, 1) := by decide +kernel
theorem dX0_init_79 : decode cX0_init 79 = .ok (.iinc 1 1, 3) := by decide +kernel
theorem dX0_init_82 : decode cX0_init 82 = .ok (.goto (-23), 3) := by decide +kernel
theorem dX0_init_85 : decode cX0_init 85 = .ok (.return_, 1) := by decide +kernel
theorem dX0_size_0 : decode cX0_size 0 = .ok (.aload_n 0, 1) := by decide +kernel
theorem dX0_size_1 : decode cX0_size 1 = .ok (.getfield 38, 3) := by decide +kernel
theorem dX0_size_4 : decode cX0_size 4 = .ok (.ireturn, 1) := by decide +kernel
theorem dX0_isFull_0 : decode cX0_isFull 0 = .ok (.aload_n 0, 1) := by decide +kernel
theorem dX0_isFull_1 : decode cX0_isFull 1 = .ok (.getfield 38, 3) := by decide +kernel
theorem dX0_isFull_4 : decode cX0_isFull 4 = .ok (.bipush 16, 2) := by decide +kernel
theorem dX0_isFull_6 : decode cX0_isFull 6 = .ok (.if_icmp .lt 7, 3) := by decide +kernel
theorem dX0_isFull_9 : decode cX0_isFull 9 = .ok (.iconst 1, 1) := by decide +kernel
theorem dX0_isFull_10 : decode cX0_isFull 10 = .ok (.goto 4, 3) := by decide +kernel
theorem dX0_isFull_13 : decode cX0_isFull 13 = .ok (.iconst 0, 1) := by decide +kernel
theorem dX0_isFull_14 : decode cX0_isFull 14 = .ok (.ireturn, 1) := by decide +kernel
theorem dX0_holds_0 : decode cX0_holds 0 = .ok (.iload_n 1, 1) := by decide +kernel
theorem dX0_holds_1 : decode cX0_holds 1 = .ok (.ifCond .lt 15, 3) := by decide +kernel
theorem dX0_holds_4 : decode cX0_holds 4 = .ok (.iload_n 1, 1) := by decide +kernel
theorem dX0_holds_5 : decode cX0_holds 5 = .ok (.aload_n 0, 1) := by decide +kernel
theorem dX0_holds_6 : decode cX0_holds 6 = .ok (.getfield 38, 3) := by decide +kernel
theorem dX0_holds_9 : decode cX0_holds 9 = .ok (.if_icmp .ge 7, 3) := by decide +kernel
theorem dX0_holds_12 : decode cX0_holds 12 = .ok (.iconst 1, 1) := by decide +kernel
theorem dX0_holds_13 : decode cX0_holds 13 = .ok (.goto 4, 3) := by decide +kernel
theorem dX0_holds_16 : decode cX0_holds 16 = .ok (.iconst 0, 1) := by decide +kernel
theorem dX0_holds_17 : decode cX0_holds 17 = .ok (.ireturn, 1) := by decide +kernel
theorem dX0_addDocument_0 : decode cX0_addDocument 0 = .ok (.aload_n 0, 1) := by decide +kernel
theorem dX0_addDocument_1 : decode cX0_addDocument 1 = .ok (.dup, 1) := by decide +kernel
theorem dX0_addDocument_2 : decode cX0_addDocument 2 = .ok (.getfield 38, 3) := by decide +kernel
theorem dX0_addDocument_5 : decode cX0_addDocument 5 = .ok (.iconst 1, 1) := by decide +kernel
theorem dX0_addDocument_6 : decode cX0_addDocument 6 = .ok (.iadd, 1) := by decide +kernel
theorem dX0_addDocument_7 : decode cX0_addDocument 7 = .ok (.putfield 38, 3) := by decide +kernel
theorem dX0_addDocument_10 : decode cX0_addDocument 10 = .ok (.aload_n 0, 1) := by decide +kernel
theorem dX0_addDocument_11 : decode cX0_addDocument 11 = .ok (.getfield 38, 3) := by decide +kernel
theorem dX0_addDocument_14 : decode cX0_addDocument 14 = .ok (.iconst 1, 1) := by decide +kernel
theorem dX0_addDocument_15 : decode cX0_addDocument 15 = .ok (.isub, 1) := by decide +kernel
theorem dX0_addDocument_16 : decode cX0_addDocument 16 = .ok (.ireturn, 1) := by decide +kernel
theorem dX0_countOf_0 : decode cX0_countOf 0 = .ok (.aload_n 0, 1) := by decide +kernel
theorem dX0_countOf_1 : decode cX0_countOf 1 = .ok (.getfield 11, 3) := by decide +kernel
theorem dX0_countOf_4 : decode cX0_countOf 4 = .ok (.iload_n 1, 1) := by decide +kernel
theorem dX0_countOf_5 : decode cX0_countOf 5 = .ok (.aaload, 1) := by decide +kernel
theorem dX0_countOf_6 : decode cX0_countOf 6 = .ok (.iload_n 2, 1) := by decide +kernel
theorem dX0_countOf_7 : decode cX0_countOf 7 = .ok (.iaload, 1) := by decide +kernel
theorem dX0_countOf_8 : decode cX0_countOf 8 = .ok (.ireturn, 1) := by decide +kernel
theorem dX0_lengthOf_0 : decode cX0_lengthOf 0 = .ok (.aload_n 0, 1) := by decide +kernel
theorem dX0_lengthOf_1 : decode cX0_lengthOf 1 = .ok (.getfield 16, 3) := by decide +kernel
theorem dX0_lengthOf_4 : decode cX0_lengthOf 4 = .ok (.iload_n 1, 1) := by decide +kernel
theorem dX0_lengthOf_5 : decode cX0_lengthOf 5 = .ok (.iaload, 1) := by decide +kernel
theorem dX0_lengthOf_6 : decode cX0_lengthOf 6 = .ok (.ireturn, 1) := by decide +kernel
theorem dX0_addCount_0 : decode cX0_addCount 0 = .ok (.aload_n 0, 1) := by decide +kernel
theorem dX0_addCount_1 : decode cX0_addCount 1 = .ok (.getfield 11, 3) := by decide +kernel
theorem dX0_addCount_4 : decode cX0_addCount 4 = .ok (.iload_n 1, 1) := by decide +kernel
theorem dX0_addCount_5 : decode cX0_addCount 5 = .ok (.aaload, 1) := by decide +kernel
theorem dX0_addCount_6 : decode cX0_addCount 6 = .ok (.iload_n 2, 1) := by decide +kernel
theorem dX0_addCount_7 : decode cX0_addCount 7 = .ok (.dup2, 1) := by decide +kernel
theorem dX0_addCount_8 : decode cX0_addCount 8 = .ok (.iaload, 1) := by decide +kernel
theorem dX0_addCount_9 : decode cX0_addCount 9 = .ok (.iconst 1, 1) := by decide +kernel
theorem dX0_addCount_10 : decode cX0_addCount 10 = .ok (.iadd, 1) := by decide +kernel
theorem dX0_addCount_11 : decode cX0_addCount 11 = .ok (.iastore, 1) := by decide +kernel
theorem dX0_addCount_12 : decode cX0_addCount 12 = .ok (.aload_n 0, 1) := by decide +kernel
theorem dX0_addCount_13 : decode cX0_addCount 13 = .ok (.getfield 16, 3) := by decide +kernel
theorem dX0_addCount_16 : decode cX0_addCount 16 = .ok (.iload_n 1, 1) := by decide +kernel
theorem dX0_addCount_17 : decode cX0_addCount 17 = .ok (.dup2, 1) := by decide +kernel
theorem dX0_addCount_18 : decode cX0_addCount 18 = .ok (.iaload, 1) := by decide +kernel
theorem dX0_addCount_19 : decode cX0_addCount 19 = .ok (.iconst 1, 1) := by decide +kernel
theorem dX0_addCount_20 : decode cX0_addCount 20 = .ok (.iadd, 1) := by decide +kernel
theorem dX0_addCount_21 : decode cX0_addCount 21 = .ok (.iastore, 1) := by decide +kernel
theorem dX0_addCount_22 : decode cX0_addCount 22 = .ok (.aload_n 0, 1) := by decide +kernel
theorem dX0_addCount_23 : decode cX0_addCount 23 = .ok (.getfield 11, 3) := by decide +kernel
theorem dX0_addCount_26 : decode cX0_addCount 26 = .ok (.iload_n 1, 1) := by decide +kernel
theorem dX0_addCount_27 : decode cX0_addCount 27 = .ok (.aaload, 1) := by decide +kernel
theorem dX0_addCount_28 : decode cX0_addCount 28 = .ok (.iload_n 2, 1) := by decide +kernel
theorem dX0_addCount_29 : decode cX0_addCount 29 = .ok (.iaload, 1) := by decide +kernel
theorem dX0_addCount_30 : decode cX0_addCount 30 = .ok (.ireturn, 1) := by decide +kernel
theorem dX0_setWeight_0 : decode cX0_setWeight 0 = .ok (.aload_n 0, 1) := by decide +kernel
theorem dX0_setWeight_1 : decode cX0_setWeight 1 = .ok (.getfield 22, 3) := by decide +kernel
theorem dX0_setWeight_4 : decode cX0_setWeight 4 = .ok (.iload_n 1, 1) := by decide +kernel
theorem dX0_setWeight_5 : decode cX0_setWeight 5 = .ok (.aaload, 1) := by decide +kernel
theorem dX0_setWeight_6 : decode cX0_setWeight 6 = .ok (.iload_n 2, 1) := by decide +kernel
theorem dX0_setWeight_7 : decode cX0_setWeight 7 = .ok (.fload_n 3, 1) := by decide +kernel
theorem dX0_setWeight_8 : decode cX0_setWeight 8 = .ok (.fastore, 1) := by decide +kernel
theorem dX0_setWeight_9 : decode cX0_setWeight 9 = .ok (.return_, 1) := by decide +kernel
theorem dX0_tokensOf_0 : decode cX0_tokensOf 0 = .ok (.aload_n 0, 1) := by decide +kernel
theorem dX0_tokensOf_1 : decode cX0_tokensOf 1 = .ok (.getfield 27, 3) := by decide +kernel
theorem dX0_tokensOf_4 : decode cX0_tokensOf 4 = .ok (.iload_n 1, 1) := by decide +kernel
theorem dX0_tokensOf_5 : decode cX0_tokensOf 5 = .ok (.aaload, 1) := by decide +kernel
theorem dX0_tokensOf_6 : decode cX0_tokensOf 6 = .ok (.areturn, 1) := by decide +kernel
theorem dX0_centroidRow_0 : decode cX0_centroidRow 0 = .ok (.aload_n 0, 1) := by decide +kernel
theorem dX0_centroidRow_1 : decode cX0_centroidRow 1 = .ok (.getfield 34, 3) := by decide +kernel
theorem dX0_centroidRow_4 : decode cX0_centroidRow 4 = .ok (.areturn, 1) := by decide +kernel
theorem dX0_documentsWith_0 : decode cX0_documentsWith 0 = .ok (.iconst 0, 1) := by decide +kernel
theorem dX0_documentsWith_1 : decode cX0_documentsWith 1 = .ok (.istore_n 2, 1) := by decide +kernel
theorem dX0_documentsWith_2 : decode cX0_documentsWith 2 = .ok (.iconst 0, 1) := by decide +kernel
theorem dX0_documentsWith_3 : decode cX0_documentsWith 3 = .ok (.istore_n 3, 1) := by decide +kernel
theorem dX0_documentsWith_4 : decode cX0_documentsWith 4 = .ok (.iload_n 3, 1) := by decide +kernel
theorem dX0_documentsWith_5 : decode cX0_documentsWith 5 = .ok (.aload_n 0, 1) := by decide +kernel
theorem dX0_documentsWith_6 : decode cX0_documentsWith 6 = .ok (.getfield 38, 3) := by decide +kernel
theorem dX0_documentsWith_9 : decode cX0_documentsWith 9 = .ok (.if_icmp .ge 23, 3) := by decide +kernel
theorem dX0_documentsWith_12 : decode cX0_documentsWith 12 = .ok (.aload_n 0, 1) := by decide +kernel
theorem dX0_documentsWith_13 : decode cX0_documentsWith 13 = .ok (.getfield 11, 3) := by decide +kernel
theorem dX0_documentsWith_16 : decode cX0_documentsWith 16 = .ok (.iload_n 3, 1) := by decide +kernel
theorem dX0_documentsWith_17 : decode cX0_documentsWith 17 = .ok (.aaload, 1) := by decide +kernel
theorem dX0_documentsWith_18 : decode cX0_documentsWith 18 = .ok (.iload_n 1, 1) := by decide +kernel
theorem dX0_documentsWith_19 : decode cX0_documentsWith 19 = .ok (.iaload, 1) := by decide +kernel
theorem dX0_documentsWith_20 : decode cX0_documentsWith 20 = .ok (.ifCond .le 6, 3) := by decide +kernel
theorem dX0_documentsWith_23 : decode cX0_documentsWith 23 = .ok (.iinc 2 1, 3) := by decide +kernel
theorem dX0_documentsWith_26 : decode cX0_documentsWith 26 = .ok (.iinc 3 1, 3) := by decide +kernel
theorem dX0_documentsWith_29 : decode cX0_documentsWith 29 = .ok (.goto (-25), 3) := by decide +kernel
theorem dX0_documentsWith_32 : decode cX0_documentsWith 32 = .ok (.iload_n 2, 1) := by decide +kernel
theorem dX0_documentsWith_33 : decode cX0_documentsWith 33 = .ok (.ireturn, 1) := by decide +kernel
theorem dX0_averageLength_0 : decode cX0_averageLength 0 = .ok (.iconst 0, 1) := by decide +kernel
theorem dX0_averageLength_1 : decode cX0_averageLength 1 = .ok (.istore_n 1, 1) := by decide +kernel
theorem dX0_averageLength_2 : decode cX0_averageLength 2 = .ok (.iconst 0, 1) := by decide +kernel
theorem dX0_averageLength_3 : decode cX0_averageLength 3 = .ok (.istore_n 2, 1) := by decide +kernel
theorem dX0_averageLength_4 : decode cX0_averageLength 4 = .ok (.iload_n 2, 1) := by decide +kernel
theorem dX0_averageLength_5 : decode cX0_averageLength 5 = .ok (.aload_n 0, 1) := by decide +kernel
theorem dX0_averageLength_6 : decode cX0_averageLength 6 = .ok (.getfield 38, 3) := by decide +kernel
theorem dX0_averageLength_9 : decode cX0_averageLength 9 = .ok (.if_icmp .ge 18, 3) := by decide +kernel
theorem dX0_averageLength_12 : decode cX0_averageLength 12 = .ok (.iload_n 1, 1) := by decide +kernel
theorem dX0_averageLength_13 : decode cX0_averageLength 13 = .ok (.aload_n 0, 1) := by decide +kernel
theorem dX0_averageLength_14 : decode cX0_averageLength 14 = .ok (.getfield 16, 3) := by decide +kernel
theorem dX0_averageLength_17 : decode cX0_averageLength 17 = .ok (.iload_n 2, 1) := by decide +kernel
theorem dX0_averageLength_18 : decode cX0_averageLength 18 = .ok (.iaload, 1) := by decide +kernel
theorem dX0_averageLength_19 : decode cX0_averageLength 19 = .ok (.iadd, 1) := by decide +kernel
theorem dX0_averageLength_20 : decode cX0_averageLength 20 = .ok (.istore_n 1, 1) := by decide +kernel
theorem dX0_averageLength_21 : decode cX0_averageLength 21 = .ok (.iinc 2 1, 3) := by decide +kernel
theorem dX0_averageLength_24 : decode cX0_averageLength 24 = .ok (.goto (-20), 3) := by decide +kernel
theorem dX0_averageLength_27 : decode cX0_averageLength 27 = .ok (.aload_n 0, 1) := by decide +kernel
theorem dX0_averageLength_28 : decode cX0_averageLength 28 = .ok (.getfield 38, 3) := by decide +kernel
theorem dX0_averageLength_31 : decode cX0_averageLength 31 = .ok (.ifCond .ne 7, 3) := by decide +kernel
theorem dX0_averageLength_34 : decode cX0_averageLength 34 = .ok (.dconst 0, 1) := by decide +kernel
theorem dX0_averageLength_35 : decode cX0_averageLength 35 = .ok (.goto 11, 3) := by decide +kernel
theorem dX0_averageLength_38 : decode cX0_averageLength 38 = .ok (.iload_n 1, 1) := by decide +kernel
theorem dX0_averageLength_39 : decode cX0_averageLength 39 = .ok (.i2d, 1) := by decide +kernel
theorem dX0_averageLength_40 : decode cX0_averageLength 40 = .ok (.aload_n 0, 1) := by decide +kernel
theorem dX0_averageLength_41 : decode cX0_averageLength 41 = .ok (.getfield 38, 3) := by decide +kernel
theorem dX0_averageLength_44 : decode cX0_averageLength 44 = .ok (.i2d, 1) := by decide +kernel
theorem dX0_averageLength_45 : decode cX0_averageLength 45 = .ok (.ddiv, 1) := by decide +kernel
theorem dX0_averageLength_46 : decode cX0_averageLength 46 = .ok (.dreturn, 1) := by decide +kernel
set_option maxRecDepth 20000 in
theorem ggX0_greatestWeight_X9_greater : GoodIn wsX0_greatestWeight wsX9_greater := goodIn_r _ [5] (by decide +kernel) (by decide +kernel)
set_option maxRecDepth 20000 in
theorem gX0_greatestWeight_X9_greater_n42 : GoodIn wsX0_greatestWeight (wsX9_greater) := ggX0_greatestWeight_X9_greater
theorem dX0_greatestWeight_0 : decode cX0_greatestWeight 0 = .ok (.fconst 0, 1) := by decide +kernel
theorem dX0_greatestWeight_1 : decode cX0_greatestWeight 1 = .ok (.fstore_n 1, 1) := by decide +kernel
theorem dX0_greatestWeight_2 : decode cX0_greatestWeight 2 = .ok (.iconst 0, 1) := by decide +kernel
theorem dX0_greatestWeight_3 : decode cX0_greatestWeight 3 = .ok (.istore_n 2, 1) := by decide +kernel
theorem dX0_greatestWeight_4 : decode cX0_greatestWeight 4 = .ok (.iload_n 2, 1) := by decide +kernel
theorem dX0_greatestWeight_5 : decode cX0_greatestWeight 5 = .ok (.aload_n 0, 1) := by decide +kernel
theorem dX0_greatestWeight_6 : decode cX0_greatestWeight 6 = .ok (.getfield 38, 3) := by decide +kernel
theorem dX0_greatestWeight_9 : decode cX0_greatestWeight 9 = .ok (.if_icmp .ge 36, 3) := by decide +kernel
theorem dX0_greatestWeight_12 : decode cX0_greatestWeight 12 = .ok (.iconst 0, 1) := by decide +kernel
theorem dX0_greatestWeight_13 : decode cX0_greatestWeight 13 = .ok (.istore_n 3, 1) := by decide +kernel
theorem dX0_greatestWeight_14 : decode cX0_greatestWeight 14 = .ok (.iload_n 3, 1) := by decide +kernel
theorem dX0_greatestWeight_15 : decode cX0_greatestWeight 15 = .ok (.bipush 12, 2) := by decide +kernel
theorem dX0_greatestWeight_17 : decode cX0_greatestWeight 17 = .ok (.if_icmp .ge 22, 3) := by decide +kernel
theorem dX0_greatestWeight_20 : decode cX0_greatestWeight 20 = .ok (.fload_n 1, 1) := by decide +kernel
theorem dX0_greatestWeight_21 : decode cX0_greatestWeight 21 = .ok (.aload_n 0, 1) := by decide +kernel
theorem dX0_greatestWeight_22 : decode cX0_greatestWeight 22 = .ok (.getfield 22, 3) := by decide +kernel
theorem dX0_greatestWeight_25 : decode cX0_greatestWeight 25 = .ok (.iload_n 2, 1) := by decide +kernel
theorem dX0_greatestWeight_26 : decode cX0_greatestWeight 26 = .ok (.aaload, 1) := by decide +kernel
theorem dX0_greatestWeight_27 : decode cX0_greatestWeight 27 = .ok (.iload_n 3, 1) := by decide +kernel
theorem dX0_greatestWeight_28 : decode cX0_greatestWeight 28 = .ok (.faload, 1) := by decide +kernel
theorem dX0_greatestWeight_29 : decode cX0_greatestWeight 29 = .ok (.invokestatic 42, 3) := by decide +kernel
theorem dX0_greatestWeight_32 : decode cX0_greatestWeight 32 = .ok (.fstore_n 1, 1) := by decide +kernel
theorem dX0_greatestWeight_33 : decode cX0_greatestWeight 33 = .ok (.iinc 3 1, 3) := by decide +kernel
theorem dX0_greatestWeight_36 : decode cX0_greatestWeight 36 = .ok (.goto (-22), 3) := by decide +kernel
theorem dX0_greatestWeight_39 : decode cX0_greatestWeight 39 = .ok (.iinc 2 1, 3) := by decide +kernel
theorem dX0_greatestWeight_42 : decode cX0_greatestWeight 42 = .ok (.goto (-38), 3) := by decide +kernel
theorem dX0_greatestWeight_45 : decode cX0_greatestWeight 45 = .ok (.fload_n 1, 1) := by decide +kernel
theorem dX0_greatestWeight_46 : decode cX0_greatestWeight 46 = .ok (.freturn, 1) := by decide +kernel
theorem dX0_impactOf_0 : decode cX0_impactOf 0 = .ok (.aload_n 0, 1) := by decide +kernel
theorem dX0_impactOf_1 : decode cX0_impactOf 1 = .ok (.getfield 22, 3) := by decide +kernel
theorem dX0_impactOf_4 : decode cX0_impactOf 4 = .ok (.iload_n 1, 1) := by decide +kernel
theorem dX0_impactOf_5 : decode cX0_impactOf 5 = .ok (.aaload, 1) := by decide +kernel
theorem dX0_impactOf_6 : decode cX0_impactOf 6 = .ok (.iload_n 2, 1) := by decide +kernel
theorem dX0_impactOf_7 : decode cX0_impactOf 7 = .ok (.faload, 1) := by decide +kernel
theorem dX0_impactOf_8 : decode cX0_impactOf 8 = .ok (.fstore 4, 2) := by decide +kernel
theorem dX0_impactOf_10 : decode cX0_impactOf 10 = .ok (.fload 4, 2) := by decide +kernel
theorem dX0_impactOf_12 : decode cX0_impactOf 12 = .ok (.fconst 0, 1) := by decide +kernel
theorem dX0_impactOf_13 : decode cX0_impactOf 13 = .ok (.fcmp .l, 1) := by decide +kernel
theorem dX0_impactOf_14 : decode cX0_impactOf 14 = .ok (.ifCond .le 9, 3) := by decide +kernel
theorem dX0_impactOf_17 : decode cX0_impactOf 17 = .ok (.fload_n 3, 1) := by decide +kernel
theorem dX0_impactOf_18 : decode cX0_impactOf 18 = .ok (.fconst 0, 1) := by decide +kernel
theorem dX0_impactOf_19 : decode cX0_impactOf 19 = .ok (.fcmp .l, 1) := by decide +kernel
theorem dX0_impactOf_20 : decode cX0_impactOf 20 = .ok (.ifCond .gt 5, 3) := by decide +kernel
theorem dX0_impactOf_23 : decode cX0_impactOf 23 = .ok (.iconst 0, 1) := by decide +kernel
theorem dX0_impactOf_24 : decode cX0_impactOf 24 = .ok (.ireturn, 1) := by decide +kernel
theorem dX0_impactOf_25 : decode cX0_impactOf 25 = .ok (.fload 4, 2) := by decide +kernel
theorem dX0_impactOf_27 : decode cX0_impactOf 27 = .ok (.fload_n 3, 1) := by decide +kernel
theorem dX0_impactOf_28 : decode cX0_impactOf 28 = .ok (.fdiv, 1) := by decide +kernel
theorem dX0_impactOf_29 : decode cX0_impactOf 29 = .ok (.ldc 46, 2) := by decide +kernel
theorem dX0_impactOf_31 : decode cX0_impactOf 31 = .ok (.fmul, 1) := by decide +kernel
theorem dX0_impactOf_32 : decode cX0_impactOf 32 = .ok (.ldc 47, 2) := by decide +kernel
theorem dX0_impactOf_34 : decode cX0_impactOf 34 = .ok (.fadd, 1) := by decide +kernel
theorem dX0_impactOf_35 : decode cX0_impactOf 35 = .ok (.f2i, 1) := by decide +kernel
theorem dX0_impactOf_36 : decode cX0_impactOf 36 = .ok (.ireturn, 1) := by decide +kernel
set_option maxRecDepth 20000 in
theorem ggX1_init_X4_init : GoodIn wsX1_init wsX4_init := goodIn_r _ [13, 14, 2, 3, 10, 15, 8, 16, 17, 18, 19, 20] (by decide +kernel) (by decide +kernel)
set_option maxRecDepth 20000 in
theorem gX1_init_X4_init_n11 : GoodIn wsX1_init (wsX4_init) := ggX1_init_X4_init
theorem dX1_init_0 : decode cX1_init 0 = .ok (.aload_n 0, 1) := by decide +kernel
theorem dX1_init_1 : decode cX1_init 1 = .ok (.invokespecial 3, 3) := by decide +kernel
theorem dX1_init_4 : decode cX1_init 4 = .ok (.aload_n 0, 1) := by decide +kernel
theorem dX1_init_5 : decode cX1_init 5 = .ok (.new 9, 3) := by decide +kernel
theorem dX1_init_8 : decode cX1_init 8 = .ok (.dup, 1) := by decide +kernel
theorem dX1_init_9 : decode cX1_init 9 = .ok (.invokespecial 11, 3) := by decide +kernel
theorem dX1_init_12 : decode cX1_init 12 = .ok (.putfield 12, 3) := by decide +kernel
theorem dX1_init_15 : decode cX1_init 15 = .ok (.aload_n 0, 1) := by decide +kernel
theorem dX1_init_16 : decode cX1_init 16 = .ok (.bipush 16, 2) := by decide +kernel
theorem dX1_init_18 : decode cX1_init 18 = .ok (.newarray .double, 2) := by decide +kernel
theorem dX1_init_20 : decode cX1_init 20 = .ok (.putfield 18, 3) := by decide +kernel
theorem dX1_init_23 : decode cX1_init 23 = .ok (.aload_n 0, 1) := by decide +kernel
theorem dX1_init_24 : decode cX1_init 24 = .ok (.bipush 16, 2) := by decide +kernel
theorem dX1_init_26 : decode cX1_init 26 = .ok (.newarray .int, 2) := by decide +kernel
theorem dX1_init_28 : decode cX1_init 28 = .ok (.putfield 22, 3) := by decide +kernel
theorem dX1_init_31 : decode cX1_init 31 = .ok (.return_, 1) := by decide +kernel
theorem dX1_ranking_0 : decode cX1_ranking 0 = .ok (.aload_n 0, 1) := by decide +kernel
theorem dX1_ranking_1 : decode cX1_ranking 1 = .ok (.getfield 12, 3) := by decide +kernel
theorem dX1_ranking_4 : decode cX1_ranking 4 = .ok (.areturn, 1) := by decide +kernel
set_option maxRecDepth 20000 in
theorem ggX1_forget_X4_start : GoodIn wsX1_forget wsX4_start := goodIn_r _ [6, 7, 8, 9, 10, 11, 12, 16, 17, 18, 19] (by decide +kernel) (by decide +kernel)
set_option maxRecDepth 20000 in
theorem gX1_forget_X4_start : GoodIn wsX1_forget (wsV RX1 26 RX4 yX4_start wsX4_start) := goodIn_app (goodIn_of _ (by decide +kernel)) ggX1_forget_X4_start
theorem dX1_forget_0 : decode cX1_forget 0 = .ok (.aload_n 0, 1) := by decide +kernel
theorem dX1_forget_1 : decode cX1_forget 1 = .ok (.getfield 12, 3) := by decide +kernel
theorem dX1_forget_4 : decode cX1_forget 4 = .ok (.iconst 0, 1) := by decide +kernel
theorem dX1_forget_5 : decode cX1_forget 5 = .ok (.invokevirtual 26, 3) := by decide +kernel
theorem dX1_forget_8 : decode cX1_forget 8 = .ok (.return_, 1) := by decide +kernel
set_option maxRecDepth 20000 in
theorem ggX1_make_X2_isMade : GoodIn wsX1_make wsX2_isMade := goodIn_r _ [8, 9, 59, 60, 61, 62, 63] (by decide +kernel) (by decide +kernel)
set_option maxRecDepth 20000 in
theorem gX1_make_X2_isMade : GoodIn wsX1_make (wsV RX1 30 RX2 yX2_isMade wsX2_isMade) := goodIn_app (goodIn_of _ (by decide +kernel)) ggX1_make_X2_isMade
set_option maxRecDepth 20000 in
theorem ggX1_make_X2_ranking : GoodIn wsX1_make wsX2_ranking := goodIn_r _ [13, 14, 59, 60, 61, 62, 63] (by decide +kernel) (by decide +kernel)
set_option maxRecDepth 20000 in
theorem gX1_make_X2_ranking : GoodIn wsX1_make (wsV RX1 36 RX2 yX2_ranking wsX2_ranking) := goodIn_app (goodIn_of _ (by decide +kernel)) ggX1_make_X2_ranking
set_option maxRecDepth 20000 in
theorem ggX1_make_X1_addList : GoodIn wsX1_make wsX1_addList := goodIn_r _ [19, 1, 2, 20, 21, 22, 23, 24, 25, 26, 27, 28, 29, 30, 31, 32, 18, 33, 34, 35, 36, 37, 38, 56, 57, 58, 64, 65, 66, 67] (by decide +kernel) (by decide +kernel)
set_option maxRecDepth 20000 in
theorem gX1_make_X1_addList : GoodIn wsX1_make (wsV RX1 39 RX1 yX1_addList wsX1_addList) := goodIn_app (goodIn_of _ (by decide +kernel)) ggX1_make_X1_addList
set_option maxRecDepth 20000 in
theorem ggX1_make_X4_start : GoodIn wsX1_make wsX4_start := goodIn_r _ [42, 43, 44, 45, 46, 47, 25, 64, 65, 66, 67] (by decide +kernel) (by decide +kernel)
set_option maxRecDepth 20000 in
theorem gX1_make_X4_start : GoodIn wsX1_make (wsV RX1 26 RX4 yX4_start wsX4_start) := goodIn_app (goodIn_of _ (by decide +kernel)) ggX1_make_X4_start
set_option maxRecDepth 20000 in
theorem ggX1_make_X4_offer : GoodIn wsX1_make wsX4_offer := goodIn_r _ [51, 25, 47, 30, 38, 52, 53, 54, 23, 55, 64, 65, 66, 67] (by decide +kernel) (by decide +kernel)
set_option maxRecDepth 20000 in
theorem gX1_make_X4_offer : GoodIn wsX1_make (wsV RX1 43 RX4 yX4_offer wsX4_offer) := goodIn_app (goodIn_of _ (by decide +kernel)) ggX1_make_X4_offer
set_option maxRecDepth 20000 in
theorem ggX1_make_X4_size : GoodIn wsX1_make wsX4_size := goodIn_r _ [24, 25, 64, 65, 66, 67] (by decide +kernel) (by decide +kernel)
set_option maxRecDepth 20000 in
theorem gX1_make_X4_size : GoodIn wsX1_make (wsV RX1 47 RX4 yX4_size wsX4_size) := goodIn_app (goodIn_of _ (by decide +kernel)) ggX1_make_X4_size
theorem dX1_make_0 : decode cX1_make 0 = .ok (.iconst 0, 1) := by decide +kernel
theorem dX1_make_1 : decode cX1_make 1 = .ok (.istore_n 3, 1) := by decide +kernel
theorem dX1_make_2 : decode cX1_make 2 = .ok (.iload_n 3, 1) := by decide +kernel
theorem dX1_make_3 : decode cX1_make 3 = .ok (.bipush 16, 2) := by decide +kernel
theorem dX1_make_5 : decode cX1_make 5 = .ok (.if_icmp .ge 23, 3) := by decide +kernel
theorem dX1_make_8 : decode cX1_make 8 = .ok (.aload_n 0, 1) := by decide +kernel
theorem dX1_make_9 : decode cX1_make 9 = .ok (.getfield 18, 3) := by decide +kernel
theorem dX1_make_12 : decode cX1_make 12 = .ok (.iload_n 3, 1) := by decide +kernel
theorem dX1_make_13 : decode cX1_make 13 = .ok (.dconst 0, 1) := by decide +kernel
theorem dX1_make_14 : decode cX1_make 14 = .ok (.dastore, 1) := by decide +kernel
theorem dX1_make_15 : decode cX1_make 15 = .ok (.aload_n 0, 1) := by decide +kernel
theorem dX1_make_16 : decode cX1_make 16 = .ok (.getfield 22, 3) := by decide +kernel
theorem dX1_make_19 : decode cX1_make 19 = .ok (.iload_n 3, 1) := by decide +kernel
theorem dX1_make_20 : decode cX1_make 20 = .ok (.iconst 0, 1) := by decide +kernel
theorem dX1_make_21 : decode cX1_make 21 = .ok (.iastore, 1) := by decide +kernel
theorem dX1_make_22 : decode cX1_make 22 = .ok (.iinc 3 1, 3) := by decide +kernel
theorem dX1_make_25 : decode cX1_make 25 = .ok (.goto (-23), 3) := by decide +kernel
theorem dX1_make_28 : decode cX1_make 28 = .ok (.iconst 0, 1) := by decide +kernel
theorem dX1_make_29 : decode cX1_make 29 = .ok (.istore_n 3, 1) := by decide +kernel
theorem dX1_make_30 : decode cX1_make 30 = .ok (.iload_n 3, 1) := by decide +kernel
theorem dX1_make_31 : decode cX1_make 31 = .ok (.aload_n 1, 1) := by decide +kernel
theorem dX1_make_32 : decode cX1_make 32 = .ok (.arraylength, 1) := by decide +kernel
theorem dX1_make_33 : decode cX1_make 33 = .ok (.if_icmp .ge 29, 3) := by decide +kernel
theorem dX1_make_36 : decode cX1_make 36 = .ok (.aload_n 1, 1) := by decide +kernel
theorem dX1_make_37 : decode cX1_make 37 = .ok (.iload_n 3, 1) := by decide +kernel
theorem dX1_make_38 : decode cX1_make 38 = .ok (.aaload, 1) := by decide +kernel
theorem dX1_make_39 : decode cX1_make 39 = .ok (.invokevirtual 30, 3) := by decide +kernel
theorem dX1_make_42 : decode cX1_make 42 = .ok (.ifCond .eq 14, 3) := by decide +kernel
theorem dX1_make_45 : decode cX1_make 45 = .ok (.aload_n 0, 1) := by decide +kernel
theorem dX1_make_46 : decode cX1_make 46 = .ok (.aload_n 1, 1) := by decide +kernel
theorem dX1_make_47 : decode cX1_make 47 = .ok (.iload_n 3, 1) := by decide +kernel
theorem dX1_make_48 : decode cX1_make 48 = .ok (.aaload, 1) := by decide +kernel
theorem dX1_make_49 : decode cX1_make 49 = .ok (.invokevirtual 36, 3) := by decide +kernel
theorem dX1_make_52 : decode cX1_make 52 = .ok (.iload_n 2, 1) := by decide +kernel
theorem dX1_make_53 : decode cX1_make 53 = .ok (.invokevirtual 39, 3) := by decide +kernel
theorem dX1_make_56 : decode cX1_make 56 = .ok (.iinc 3 1, 3) := by decide +kernel
theorem dX1_make_59 : decode cX1_make 59 = .ok (.goto (-29), 3) := by decide +kernel
theorem dX1_make_62 : decode cX1_make 62 = .ok (.aload_n 0, 1) := by decide +kernel
theorem dX1_make_63 : decode cX1_make 63 = .ok (.getfield 12, 3) := by decide +kernel
theorem dX1_make_66 : decode cX1_make 66 = .ok (.bipush 16, 2) := by decide +kernel
theorem dX1_make_68 : decode cX1_make 68 = .ok (.invokevirtual 26, 3) := by decide +kernel
theorem dX1_make_71 : decode cX1_make 71 = .ok (.iconst 0, 1) := by decide +kernel
theorem dX1_make_72 : decode cX1_make 72 = .ok (.istore_n 3, 1) := by decide +kernel
theorem dX1_make_73 : decode cX1_make 73 = .ok (.iload_n 3, 1) := by decide +kernel
theorem dX1_make_74 : decode cX1_make 74 = .ok (.bipush 16, 2) := by decide +kernel
theorem dX1_make_76 : decode cX1_make 76 = .ok (.if_icmp .ge 54, 3) := by decide +kernel
theorem dX1_make_79 : decode cX1_make 79 = .ok (.aload_n 0, 1) := by decide +kernel
theorem dX1_make_80 : decode cX1_make 80 = .ok (.getfield 22, 3) := by decide +kernel
theorem dX1_make_83 : decode cX1_make 83 = .ok (.iload_n 3, 1) := by decide +kernel
theorem dX1_make_84 : decode cX1_make 84 = .ok (.iaload, 1) := by decide +kernel
theorem dX1_make_85 : decode cX1_make 85 = .ok (.ifCond .le 39, 3) := by decide +kernel
theorem dX1_make_88 : decode cX1_make 88 = .ok (.aload_n 0, 1) := by decide +kernel
theorem dX1_make_89 : decode cX1_make 89 = .ok (.getfield 12, 3) := by decide +kernel
theorem dX1_make_92 : decode cX1_make 92 = .ok (.iload_n 3, 1) := by decide +kernel
theorem dX1_make_93 : decode cX1_make 93 = .ok (.iload_n 2, 1) := by decide +kernel
theorem dX1_make_94 : decode cX1_make 94 = .ok (.iconst 2, 1) := by decide +kernel
theorem dX1_make_95 : decode cX1_make 95 = .ok (.if_icmp .ne 20, 3) := by decide +kernel
theorem dX1_make_98 : decode cX1_make 98 = .ok (.aload_n 0, 1) := by decide +kernel
theorem dX1_make_99 : decode cX1_make 99 = .ok (.getfield 18, 3) := by decide +kernel
theorem dX1_make_102 : decode cX1_make 102 = .ok (.iload_n 3, 1) := by decide +kernel
theorem dX1_make_103 : decode cX1_make 103 = .ok (.daload, 1) := by decide +kernel
theorem dX1_make_104 : decode cX1_make 104 = .ok (.aload_n 0, 1) := by decide +kernel
theorem dX1_make_105 : decode cX1_make 105 = .ok (.getfield 22, 3) := by decide +kernel
theorem dX1_make_108 : decode cX1_make 108 = .ok (.iload_n 3, 1) := by decide +kernel
theorem dX1_make_109 : decode cX1_make 109 = .ok (.iaload, 1) := by decide +kernel
theorem dX1_make_110 : decode cX1_make 110 = .ok (.i2d, 1) := by decide +kernel
theorem dX1_make_111 : decode cX1_make 111 = .ok (.dmul, 1) := by decide +kernel
theorem dX1_make_112 : decode cX1_make 112 = .ok (.goto 9, 3) := by decide +kernel
theorem dX1_make_115 : decode cX1_make 115 = .ok (.aload_n 0, 1) := by decide +kernel
theorem dX1_make_116 : decode cX1_make 116 = .ok (.getfield 18, 3) := by decide +kernel
theorem dX1_make_119 : decode cX1_make 119 = .ok (.iload_n 3, 1) := by decide +kernel
theorem dX1_make_120 : decode cX1_make 120 = .ok (.daload, 1) := by decide +kernel
theorem dX1_make_121 : decode cX1_make 121 = .ok (.invokevirtual 43, 3) := by decide +kernel
theorem dX1_make_124 : decode cX1_make 124 = .ok (.iinc 3 1, 3) := by decide +kernel
theorem dX1_make_127 : decode cX1_make 127 = .ok (.goto (-54), 3) := by decide +kernel
theorem dX1_make_130 : decode cX1_make 130 = .ok (.aload_n 0, 1) := by decide +kernel
theorem dX1_make_131 : decode cX1_make 131 = .ok (.getfield 12, 3) := by decide +kernel
theorem dX1_make_134 : decode cX1_make 134 = .ok (.invokevirtual 47, 3) := by decide +kernel
theorem dX1_make_137 : decode cX1_make 137 = .ok (.ireturn, 1) := by decide +kernel
set_option maxRecDepth 20000 in
theorem ggX1_addList_X4_size : GoodIn wsX1_addList wsX4_size := goodIn_r _ [7, 8, 26, 27, 28, 29] (by decide +kernel) (by decide +kernel)
set_option maxRecDepth 20000 in
theorem gX1_addList_X4_size : GoodIn wsX1_addList (wsV RX1 47 RX4 yX4_size wsX4_size) := goodIn_app (goodIn_of _ (by decide +kernel)) ggX1_addList_X4_size
set_option maxRecDepth 20000 in
theorem ggX1_addList_X4_documentAt : GoodIn wsX1_addList wsX4_documentAt := goodIn_r _ [12, 13, 26, 27, 28, 29] (by decide +kernel) (by decide +kernel)
set_option maxRecDepth 20000 in
theorem gX1_addList_X4_documentAt : GoodIn wsX1_addList (wsV RX1 51 RX4 yX4_documentAt wsX4_documentAt) := goodIn_app (goodIn_of _ (by decide +kernel)) ggX1_addList_X4_documentAt
set_option maxRecDepth 20000 in
theorem ggX1_addList_X1_shareAt : GoodIn wsX1_addList wsX1_shareAt := goodIn_r _ [17, 18, 19, 20, 6, 21, 22, 3, 4, 5, 7, 8, 26, 27, 28, 29] (by decide +kernel) (by decide +kernel)
set_option maxRecDepth 20000 in
theorem gX1_addList_X1_shareAt : GoodIn wsX1_addList (va_wsS RX1 55 yX1_shareAt wsX1_shareAt) := goodIn_app (goodIn_of _ (by decide +kernel)) ggX1_addList_X1_shareAt
theorem dX1_addList_0 : decode cX1_addList 0 = .ok (.iconst 0, 1) := by decide +kernel
theorem dX1_addList_1 : decode cX1_addList 1 = .ok (.istore_n 3, 1) := by decide +kernel
theorem dX1_addList_2 : decode cX1_addList 2 = .ok (.iload_n 3, 1) := by decide +kernel
theorem dX1_addList_3 : decode cX1_addList 3 = .ok (.aload_n 1, 1) := by decide +kernel
theorem dX1_addList_4 : decode cX1_addList 4 = .ok (.invokevirtual 47, 3) := by decide +kernel
theorem dX1_addList_7 : decode cX1_addList 7 = .ok (.if_icmp .ge 63, 3) := by decide +kernel
theorem dX1_addList_10 : decode cX1_addList 10 = .ok (.aload_n 1, 1) := by decide +kernel
theorem dX1_addList_11 : decode cX1_addList 11 = .ok (.iload_n 3, 1) := by decide +kernel
theorem dX1_addList_12 : decode cX1_addList 12 = .ok (.invokevirtual 51, 3) := by decide +kernel
theorem dX1_addList_15 : decode cX1_addList 15 = .ok (.istore 4, 2) := by decide +kernel
theorem dX1_addList_17 : decode cX1_addList 17 = .ok (.aload_n 0, 1) := by decide +kernel
theorem dX1_addList_18 : decode cX1_addList 18 = .ok (.getfield 18, 3) := by decide +kernel
theorem dX1_addList_21 : decode cX1_addList 21 = .ok (.iload 4, 2) := by decide +kernel
theorem dX1_addList_23 : decode cX1_addList 23 = .ok (.aload_n 0, 1) := by decide +kernel
theorem dX1_addList_24 : decode cX1_addList 24 = .ok (.getfield 18, 3) := by decide +kernel
theorem dX1_addList_27 : decode cX1_addList 27 = .ok (.iload 4, 2) := by decide +kernel
theorem dX1_addList_29 : decode cX1_addList 29 = .ok (.daload, 1) := by decide +kernel
theorem dX1_addList_30 : decode cX1_addList 30 = .ok (.iload_n 2, 1) := by decide +kernel
theorem dX1_addList_31 : decode cX1_addList 31 = .ok (.ifCond .ne 15, 3) := by decide +kernel
theorem dX1_addList_34 : decode cX1_addList 34 = .ok (.dconst 1, 1) := by decide +kernel
theorem dX1_addList_35 : decode cX1_addList 35 = .ok (.bipush 60, 2) := by decide +kernel
theorem dX1_addList_37 : decode cX1_addList 37 = .ok (.iload_n 3, 1) := by decide +kernel
theorem dX1_addList_38 : decode cX1_addList 38 = .ok (.iconst 1, 1) := by decide +kernel
theorem dX1_addList_39 : decode cX1_addList 39 = .ok (.iadd, 1) := by decide +kernel
theorem dX1_addList_40 : decode cX1_addList 40 = .ok (.iadd, 1) := by decide +kernel
theorem dX1_addList_41 : decode cX1_addList 41 = .ok (.i2d, 1) := by decide +kernel
theorem dX1_addList_42 : decode cX1_addList 42 = .ok (.ddiv, 1) := by decide +kernel
theorem dX1_addList_43 : decode cX1_addList 43 = .ok (.goto 8, 3) := by decide +kernel
theorem dX1_addList_46 : decode cX1_addList 46 = .ok (.aload_n 1, 1) := by decide +kernel
theorem dX1_addList_47 : decode cX1_addList 47 = .ok (.iload_n 3, 1) := by decide +kernel
theorem dX1_addList_48 : decode cX1_addList 48 = .ok (.invokestatic 55, 3) := by decide +kernel
theorem dX1_addList_51 : decode cX1_addList 51 = .ok (.dadd, 1) := by decide +kernel
theorem dX1_addList_52 : decode cX1_addList 52 = .ok (.dastore, 1) := by decide +kernel
theorem dX1_addList_53 : decode cX1_addList 53 = .ok (.aload_n 0, 1) := by decide +kernel
theorem dX1_addList_54 : decode cX1_addList 54 = .ok (.getfield 22, 3) := by decide +kernel
theorem dX1_addList_57 : decode cX1_addList 57 = .ok (.iload 4, 2) := by decide +kernel
theorem dX1_addList_59 : decode cX1_addList 59 = .ok (.dup2, 1) := by decide +kernel
theorem dX1_addList_60 : decode cX1_addList 60 = .ok (.iaload, 1) := by decide +kernel
theorem dX1_addList_61 : decode cX1_addList 61 = .ok (.iconst 1, 1) := by decide +kernel
theorem dX1_addList_62 : decode cX1_addList 62 = .ok (.iadd, 1) := by decide +kernel
theorem dX1_addList_63 : decode cX1_addList 63 = .ok (.iastore, 1) := by decide +kernel
theorem dX1_addList_64 : decode cX1_addList 64 = .ok (.iinc 3 1, 3) := by decide +kernel
theorem dX1_addList_67 : decode cX1_addList 67 = .ok (.goto (-65), 3) := by decide +kernel
theorem dX1_addList_70 : decode cX1_addList 70 = .ok (.return_, 1) := by decide +kernel
set_option maxRecDepth 20000 in
theorem ggX1_shareAt_X4_scoreAt : GoodIn wsX1_shareAt wsX4_scoreAt := goodIn_r _ [5, 6, 12, 13, 14, 15] (by decide +kernel) (by decide +kernel)
set_option maxRecDepth 20000 in
theorem gX1_shareAt_X4_scoreAt : GoodIn wsX1_shareAt (wsV RX1 59 RX4 yX4_scoreAt wsX4_scoreAt) := goodIn_app (goodIn_of _ (by decide +kernel)) ggX1_shareAt_X4_scoreAt
set_option maxRecDepth 20000 in
theorem ggX1_shareAt_X4_size : GoodIn wsX1_shareAt wsX4_size := goodIn_r _ [10, 11, 12, 13, 14, 15] (by decide +kernel) (by decide +kernel)
set_option maxRecDepth 20000 in
theorem gX1_shareAt_X4_size : GoodIn wsX1_shareAt (wsV RX1 47 RX4 yX4_size wsX4_size) := goodIn_app (goodIn_of _ (by decide +kernel)) ggX1_shareAt_X4_size
theorem dX1_shareAt_0 : decode cX1_shareAt 0 = .ok (.aload_n 0, 1) := by decide +kernel
theorem dX1_shareAt_1 : decode cX1_shareAt 1 = .ok (.iconst 0, 1) := by decide +kernel
theorem dX1_shareAt_2 : decode cX1_shareAt 2 = .ok (.invokevirtual 59, 3) := by decide +kernel
theorem dX1_shareAt_5 : decode cX1_shareAt 5 = .ok (.dstore_n 2, 1) := by decide +kernel
theorem dX1_shareAt_6 : decode cX1_shareAt 6 = .ok (.aload_n 0, 1) := by decide +kernel
theorem dX1_shareAt_7 : decode cX1_shareAt 7 = .ok (.aload_n 0, 1) := by decide +kernel
theorem dX1_shareAt_8 : decode cX1_shareAt 8 = .ok (.invokevirtual 47, 3) := by decide +kernel
theorem dX1_shareAt_11 : decode cX1_shareAt 11 = .ok (.iconst 1, 1) := by decide +kernel
theorem dX1_shareAt_12 : decode cX1_shareAt 12 = .ok (.isub, 1) := by decide +kernel
theorem dX1_shareAt_13 : decode cX1_shareAt 13 = .ok (.invokevirtual 59, 3) := by decide +kernel
theorem dX1_shareAt_16 : decode cX1_shareAt 16 = .ok (.dstore 4, 2) := by decide +kernel
theorem dX1_shareAt_18 : decode cX1_shareAt 18 = .ok (.dload_n 2, 1) := by decide +kernel
theorem dX1_shareAt_19 : decode cX1_shareAt 19 = .ok (.dload 4, 2) := by decide +kernel
theorem dX1_shareAt_21 : decode cX1_shareAt 21 = .ok (.dcmp .l, 1) := by decide +kernel
theorem dX1_shareAt_22 : decode cX1_shareAt 22 = .ok (.ifCond .gt 5, 3) := by decide +kernel
theorem dX1_shareAt_25 : decode cX1_shareAt 25 = .ok (.dconst 1, 1) := by decide +kernel
theorem dX1_shareAt_26 : decode cX1_shareAt 26 = .ok (.dreturn, 1) := by decide +kernel
theorem dX1_shareAt_27 : decode cX1_shareAt 27 = .ok (.aload_n 0, 1) := by decide +kernel
theorem dX1_shareAt_28 : decode cX1_shareAt 28 = .ok (.iload_n 1, 1) := by decide +kernel
theorem dX1_shareAt_29 : decode cX1_shareAt 29 = .ok (.invokevirtual 59, 3) := by decide +kernel
theorem dX1_shareAt_32 : decode cX1_shareAt 32 = .ok (.dload 4, 2) := by decide +kernel
theorem dX1_shareAt_34 : decode cX1_shareAt 34 = .ok (.dsub, 1) := by decide +kernel
theorem dX1_shareAt_35 : decode cX1_shareAt 35 = .ok (.dload_n 2, 1) := by decide +kernel
theorem dX1_shareAt_36 : decode cX1_shareAt 36 = .ok (.dload 4, 2) := by decide +kernel
theorem dX1_shareAt_38 : decode cX1_shareAt 38 = .ok (.dsub, 1) := by decide +kernel
theorem dX1_shareAt_39 : decode cX1_shareAt 39 = .ok (.ddiv, 1) := by decide +kernel
theorem dX1_shareAt_40 : decode cX1_shareAt 40 = .ok (.dreturn, 1) := by decide +kernel
set_option maxRecDepth 20000 in
theorem ggX2_init_X4_init : GoodIn wsX2_init wsX4_init := goodIn_r _ [9, 10, 2, 3, 11, 12, 13, 14, 15, 16, 17, 18] (by decide +kernel) (by decide +kernel)
set_option maxRecDepth 20000 in
theorem gX2_init_X4_init_n9 : GoodIn wsX2_init (wsX4_init) := ggX2_init_X4_init
theorem dX2_init_0 : decode cX2_init 0 = .ok (.aload_n 0, 1) := by decide +kernel
theorem dX2_init_1 : decode cX2_init 1 = .ok (.invokespecial 1, 3) := by decide +kernel
theorem dX2_init_4 : decode cX2_init 4 = .ok (.aload_n 0, 1) := by decide +kernel
theorem dX2_init_5 : decode cX2_init 5 = .ok (.new 7, 3) := by decide +kernel
theorem dX2_init_8 : decode cX2_init 8 = .ok (.dup, 1) := by decide +kernel
theorem dX2_init_9 : decode cX2_init 9 = .ok (.invokespecial 9, 3) := by decide +kernel
theorem dX2_init_12 : decode cX2_init 12 = .ok (.putfield 10, 3) := by decide +kernel
theorem dX2_init_15 : decode cX2_init 15 = .ok (.return_, 1) := by decide +kernel
set_option maxRecDepth 20000 in
theorem ggX2_start_X4_start : GoodIn wsX2_start wsX4_start := goodIn_r _ [10, 11, 12, 13, 14, 15, 16, 22, 23, 24, 25] (by decide +kernel) (by decide +kernel)
set_option maxRecDepth 20000 in
theorem gX2_start_X4_start : GoodIn wsX2_start (wsV RX2 16 RX4 yX4_start wsX4_start) := goodIn_app (goodIn_of _ (by decide +kernel)) ggX2_start_X4_start
theorem dX2_start_0 : decode cX2_start 0 = .ok (.aload_n 0, 1) := by decide +kernel
theorem dX2_start_1 : decode cX2_start 1 = .ok (.getfield 10, 3) := by decide +kernel
theorem dX2_start_4 : decode cX2_start 4 = .ok (.iload_n 1, 1) := by decide +kernel
theorem dX2_start_5 : decode cX2_start 5 = .ok (.invokevirtual 16, 3) := by decide +kernel
theorem dX2_start_8 : decode cX2_start 8 = .ok (.aload_n 0, 1) := by decide +kernel
theorem dX2_start_9 : decode cX2_start 9 = .ok (.iconst 1, 1) := by decide +kernel
theorem dX2_start_10 : decode cX2_start 10 = .ok (.putfield 20, 3) := by decide +kernel
theorem dX2_start_13 : decode cX2_start 13 = .ok (.aload_n 0, 1) := by decide +kernel
theorem dX2_start_14 : decode cX2_start 14 = .ok (.iconst 0, 1) := by decide +kernel
theorem dX2_start_15 : decode cX2_start 15 = .ok (.putfield 24, 3) := by decide +kernel
theorem dX2_start_18 : decode cX2_start 18 = .ok (.aload_n 0, 1) := by decide +kernel
theorem dX2_start_19 : decode cX2_start 19 = .ok (.iconst 0, 1) := by decide +kernel
theorem dX2_start_20 : decode cX2_start 20 = .ok (.putfield 28, 3) := by decide +kernel
theorem dX2_start_23 : decode cX2_start 23 = .ok (.aload_n 0, 1) := by decide +kernel
theorem dX2_start_24 : decode cX2_start 24 = .ok (.iconst 0, 1) := by decide +kernel
theorem dX2_start_25 : decode cX2_start 25 = .ok (.putfield 31, 3) := by decide +kernel
theorem dX2_start_28 : decode cX2_start 28 = .ok (.return_, 1) := by decide +kernel
theorem dX2_forget_0 : decode cX2_forget 0 = .ok (.aload_n 0, 1) := by decide +kernel
theorem dX2_forget_1 : decode cX2_forget 1 = .ok (.iconst 0, 1) := by decide +kernel
theorem dX2_forget_2 : decode cX2_forget 2 = .ok (.putfield 20, 3) := by decide +kernel
theorem dX2_forget_5 : decode cX2_forget 5 = .ok (.return_, 1) := by decide +kernel
theorem dX2_isMade_0 : decode cX2_isMade 0 = .ok (.aload_n 0, 1) := by decide +kernel
theorem dX2_isMade_1 : decode cX2_isMade 1 = .ok (.getfield 20, 3) := by decide +kernel
theorem dX2_isMade_4 : decode cX2_isMade 4 = .ok (.ireturn, 1) := by decide +kernel
theorem dX2_ranking_0 : decode cX2_ranking 0 = .ok (.aload_n 0, 1) := by decide +kernel
theorem dX2_ranking_1 : decode cX2_ranking 1 = .ok (.getfield 10, 3) := by decide +kernel
theorem dX2_ranking_4 : decode cX2_ranking 4 = .ok (.areturn, 1) := by decide +kernel
theorem dX2_addScored_0 : decode cX2_addScored 0 = .ok (.aload_n 0, 1) := by decide +kernel
theorem dX2_addScored_1 : decode cX2_addScored 1 = .ok (.dup, 1) := by decide +kernel
theorem dX2_addScored_2 : decode cX2_addScored 2 = .ok (.getfield 24, 3) := by decide +kernel
theorem dX2_addScored_5 : decode cX2_addScored 5 = .ok (.iconst 1, 1) := by decide +kernel
theorem dX2_addScored_6 : decode cX2_addScored 6 = .ok (.iadd, 1) := by decide +kernel
theorem dX2_addScored_7 : decode cX2_addScored 7 = .ok (.putfield 24, 3) := by decide +kernel
theorem dX2_addScored_10 : decode cX2_addScored 10 = .ok (.return_, 1) := by decide +kernel
theorem dX2_addSkipped_0 : decode cX2_addSkipped 0 = .ok (.aload_n 0, 1) := by decide +kernel
theorem dX2_addSkipped_1 : decode cX2_addSkipped 1 = .ok (.dup, 1) := by decide +kernel
theorem dX2_addSkipped_2 : decode cX2_addSkipped 2 = .ok (.getfield 28, 3) := by decide +kernel
theorem dX2_addSkipped_5 : decode cX2_addSkipped 5 = .ok (.iconst 1, 1) := by decide +kernel
theorem dX2_addSkipped_6 : decode cX2_addSkipped 6 = .ok (.iadd, 1) := by decide +kernel
theorem dX2_addSkipped_7 : decode cX2_addSkipped 7 = .ok (.putfield 28, 3) := by decide +kernel
theorem dX2_addSkipped_10 : decode cX2_addSkipped 10 = .ok (.return_, 1) := by decide +kernel
theorem dX2_addPassed_0 : decode cX2_addPassed 0 = .ok (.aload_n 0, 1) := by decide +kernel
theorem dX2_addPassed_1 : decode cX2_addPassed 1 = .ok (.dup, 1) := by decide +kernel
theorem dX2_addPassed_2 : decode cX2_addPassed 2 = .ok (.getfield 31, 3) := by decide +kernel
theorem dX2_addPassed_5 : decode cX2_addPassed 5 = .ok (.iconst 1, 1) := by decide +kernel
theorem dX2_addPassed_6 : decode cX2_addPassed 6 = .ok (.iadd, 1) := by decide +kernel
theorem dX2_addPassed_7 : decode cX2_addPassed 7 = .ok (.putfield 31, 3) := by decide +kernel
theorem dX2_addPassed_10 : decode cX2_addPassed 10 = .ok (.return_, 1) := by decide +kernel
theorem dX2_scored_0 : decode cX2_scored 0 = .ok (.aload_n 0, 1) := by decide +kernel
theorem dX2_scored_1 : decode cX2_scored 1 = .ok (.getfield 24, 3) := by decide +kernel
theorem dX2_scored_4 : decode cX2_scored 4 = .ok (.ireturn, 1) := by decide +kernel
theorem dX2_skipped_0 : decode cX2_skipped 0 = .ok (.aload_n 0, 1) := by decide +kernel
theorem dX2_skipped_1 : decode cX2_skipped 1 = .ok (.getfield 28, 3) := by decide +kernel
theorem dX2_skipped_4 : decode cX2_skipped 4 = .ok (.ireturn, 1) := by decide +kernel
theorem dX2_passed_0 : decode cX2_passed 0 = .ok (.aload_n 0, 1) := by decide +kernel
theorem dX2_passed_1 : decode cX2_passed 1 = .ok (.getfield 31, 3) := by decide +kernel
theorem dX2_passed_4 : decode cX2_passed 4 = .ok (.ireturn, 1) := by decide +kernel
set_option maxRecDepth 20000 in
theorem ggX3_init_X5_init : GoodIn wsX3_init wsX5_init := goodIn_r _ [7, 8, 9, 10] (by decide +kernel) (by decide +kernel)
set_option maxRecDepth 20000 in
theorem gX3_init_X5_init_n3 : GoodIn wsX3_init (wsX5_init) := ggX3_init_X5_init
theorem dX3_init_0 : decode cX3_init 0 = .ok (.aload_n 0, 1) := by decide +kernel
theorem dX3_init_1 : decode cX3_init 1 = .ok (.invokespecial 3, 3) := by decide +kernel
theorem dX3_init_4 : decode cX3_init 4 = .ok (.aload_n 0, 1) := by decide +kernel
theorem dX3_init_5 : decode cX3_init 5 = .ok (.iconst 4, 1) := by decide +kernel
theorem dX3_init_6 : decode cX3_init 6 = .ok (.bipush 16, 2) := by decide +kernel
theorem dX3_init_8 : decode cX3_init 8 = .ok (.multianewarray 9 2, 4) := by decide +kernel
theorem dX3_init_12 : decode cX3_init 12 = .ok (.putfield 11, 3) := by decide +kernel
theorem dX3_init_15 : decode cX3_init 15 = .ok (.aload_n 0, 1) := by decide +kernel
theorem dX3_init_16 : decode cX3_init 16 = .ok (.iconst 4, 1) := by decide +kernel
theorem dX3_init_17 : decode cX3_init 17 = .ok (.iconst 4, 1) := by decide +kernel
theorem dX3_init_18 : decode cX3_init 18 = .ok (.multianewarray 9 2, 4) := by decide +kernel
theorem dX3_init_22 : decode cX3_init 22 = .ok (.putfield 16, 3) := by decide +kernel
theorem dX3_init_25 : decode cX3_init 25 = .ok (.return_, 1) := by decide +kernel
set_option maxRecDepth 20000 in
theorem ggX3_fillWords_X6_size : GoodIn wsX3_fillWords wsX6_size := goodIn_r _ [7, 8, 60, 61, 62] (by decide +kernel) (by decide +kernel)
set_option maxRecDepth 20000 in
theorem gX3_fillWords_X6_size : GoodIn wsX3_fillWords (wsV RX3 19 RX6 yX6_size wsX6_size) := goodIn_app (goodIn_of _ (by decide +kernel)) ggX3_fillWords_X6_size
set_option maxRecDepth 20000 in
theorem ggX3_fillWords_X0_averageLength : GoodIn wsX3_fillWords wsX0_averageLength := goodIn_r _ [13, 14, 15, 63, 64, 65, 66, 67, 68] (by decide +kernel) (by decide +kernel)
set_option maxRecDepth 20000 in
theorem gX3_fillWords_X0_averageLength : GoodIn wsX3_fillWords (wsV RX3 29 RX0 yX0_averageLength wsX0_averageLength) := goodIn_app (goodIn_of _ (by decide +kernel)) ggX3_fillWords_X0_averageLength
set_option maxRecDepth 20000 in
theorem ggX3_fillWords_X6_termAt : GoodIn wsX3_fillWords wsX6_termAt := goodIn_r _ [19, 20, 60, 61, 62] (by decide +kernel) (by decide +kernel)
set_option maxRecDepth 20000 in
theorem gX3_fillWords_X6_termAt : GoodIn wsX3_fillWords (wsV RX3 35 RX6 yX6_termAt wsX6_termAt) := goodIn_app (goodIn_of _ (by decide +kernel)) ggX3_fillWords_X6_termAt
set_option maxRecDepth 20000 in
theorem ggX3_fillWords_X0_size : GoodIn wsX3_fillWords wsX0_size := goodIn_r _ [24, 14, 63, 64, 65, 66, 67, 68] (by decide +kernel) (by decide +kernel)
set_option maxRecDepth 20000 in
theorem gX3_fillWords_X0_size : GoodIn wsX3_fillWords (wsV RX3 39 RX0 yX0_size wsX0_size) := goodIn_app (goodIn_of _ (by decide +kernel)) ggX3_fillWords_X0_size
set_option maxRecDepth 20000 in
theorem ggX3_fillWords_X0_documentsWith : GoodIn wsX3_fillWords wsX0_documentsWith := goodIn_r _ [28, 14, 29, 63, 64, 65, 66, 67, 68] (by decide +kernel) (by decide +kernel)
set_option maxRecDepth 20000 in
theorem gX3_fillWords_X0_documentsWith : GoodIn wsX3_fillWords (wsV RX3 40 RX0 yX0_documentsWith wsX0_documentsWith) := goodIn_app (goodIn_of _ (by decide +kernel)) ggX3_fillWords_X0_documentsWith
set_option maxRecDepth 20000 in
theorem ggX3_fillWords_X9_inverseFrequency : GoodIn wsX3_fillWords wsX9_inverseFrequency := goodIn_r _ [32, 33, 34, 35, 31, 36, 37, 38] (by decide +kernel) (by decide +kernel)
set_option maxRecDepth 20000 in
theorem gX3_fillWords_X9_inverseFrequency_n43 : GoodIn wsX3_fillWords (wsX9_inverseFrequency) := ggX3_fillWords_X9_inverseFrequency
set_option maxRecDepth 20000 in
theorem ggX3_fillWords_X0_countOf : GoodIn wsX3_fillWords wsX0_countOf := goodIn_r _ [42, 29, 63, 64, 65, 66, 67, 68] (by decide +kernel) (by decide +kernel)
set_option maxRecDepth 20000 in
theorem gX3_fillWords_X0_countOf : GoodIn wsX3_fillWords (wsV RX3 47 RX0 yX0_countOf wsX0_countOf) := goodIn_app (goodIn_of _ (by decide +kernel)) ggX3_fillWords_X0_countOf
set_option maxRecDepth 20000 in
theorem ggX3_fillWords_X0_lengthOf : GoodIn wsX3_fillWords wsX0_lengthOf := goodIn_r _ [46, 15, 63, 64, 65, 66, 67, 68] (by decide +kernel) (by decide +kernel)
set_option maxRecDepth 20000 in
theorem gX3_fillWords_X0_lengthOf : GoodIn wsX3_fillWords (wsV RX3 51 RX0 yX0_lengthOf wsX0_lengthOf) := goodIn_app (goodIn_of _ (by decide +kernel)) ggX3_fillWords_X0_lengthOf
set_option maxRecDepth 20000 in
theorem ggX3_fillWords_X9_wordPart : GoodIn wsX3_fillWords wsX9_wordPart := goodIn_r _ [48, 49, 50] (by decide +kernel) (by decide +kernel)
set_option maxRecDepth 20000 in
theorem gX3_fillWords_X9_wordPart_n54 : GoodIn wsX3_fillWords (wsX9_wordPart) := ggX3_fillWords_X9_wordPart
set_option maxRecDepth 20000 in
theorem ggX3_fillWords_X3_fillBounds : GoodIn wsX3_fillWords wsX3_fillBounds := goodIn_r _ [55, 1, 56, 2, 57, 58, 59] (by decide +kernel) (by decide +kernel)
set_option maxRecDepth 20000 in
theorem gX3_fillWords_X3_fillBounds : GoodIn wsX3_fillWords (wsV RX3 58 RX3 yX3_fillBounds wsX3_fillBounds) := goodIn_app (goodIn_of _ (by decide +kernel)) ggX3_fillWords_X3_fillBounds
theorem dX3_fillWords_0 : decode cX3_fillWords 0 = .ok (.aload_n 0, 1) := by decide +kernel
theorem dX3_fillWords_1 : decode cX3_fillWords 1 = .ok (.aload_n 2, 1) := by decide +kernel
theorem dX3_fillWords_2 : decode cX3_fillWords 2 = .ok (.invokevirtual 19, 3) := by decide +kernel
theorem dX3_fillWords_5 : decode cX3_fillWords 5 = .ok (.putfield 25, 3) := by decide +kernel
theorem dX3_fillWords_8 : decode cX3_fillWords 8 = .ok (.aload_n 1, 1) := by decide +kernel
theorem dX3_fillWords_9 : decode cX3_fillWords 9 = .ok (.invokevirtual 29, 3) := by decide +kernel
theorem dX3_fillWords_12 : decode cX3_fillWords 12 = .ok (.dstore_n 3, 1) := by decide +kernel
theorem dX3_fillWords_13 : decode cX3_fillWords 13 = .ok (.iconst 0, 1) := by decide +kernel
theorem dX3_fillWords_14 : decode cX3_fillWords 14 = .ok (.istore 5, 2) := by decide +kernel
theorem dX3_fillWords_16 : decode cX3_fillWords 16 = .ok (.iload 5, 2) := by decide +kernel
theorem dX3_fillWords_18 : decode cX3_fillWords 18 = .ok (.aload_n 0, 1) := by decide +kernel
theorem dX3_fillWords_19 : decode cX3_fillWords 19 = .ok (.getfield 25, 3) := by decide +kernel
theorem dX3_fillWords_22 : decode cX3_fillWords 22 = .ok (.if_icmp .ge 84, 3) := by decide +kernel
theorem dX3_fillWords_25 : decode cX3_fillWords 25 = .ok (.aload_n 2, 1) := by decide +kernel
theorem dX3_fillWords_26 : decode cX3_fillWords 26 = .ok (.iload 5, 2) := by decide +kernel
theorem dX3_fillWords_28 : decode cX3_fillWords 28 = .ok (.invokevirtual 35, 3) := by decide +kernel
theorem dX3_fillWords_31 : decode cX3_fillWords 31 = .ok (.istore 6, 2) := by decide +kernel
theorem dX3_fillWords_33 : decode cX3_fillWords 33 = .ok (.aload_n 1, 1) := by decide +kernel
theorem dX3_fillWords_34 : decode cX3_fillWords 34 = .ok (.invokevirtual 39, 3) := by decide +kernel
theorem dX3_fillWords_37 : decode cX3_fillWords 37 = .ok (.aload_n 1, 1) := by decide +kernel
theorem dX3_fillWords_38 : decode cX3_fillWords 38 = .ok (.iload 6, 2) := by decide +kernel
theorem dX3_fillWords_40 : decode cX3_fillWords 40 = .ok (.invokevirtual 40, 3) := by decide +kernel
theorem dX3_fillWords_43 : decode cX3_fillWords 43 = .ok (.invokestatic 43, 3) := by decide +kernel
theorem dX3_fillWords_46 : decode cX3_fillWords 46 = .ok (.dstore 7, 2) := by decide +kernel
theorem dX3_fillWords_48 : decode cX3_fillWords 48 = .ok (.iconst 0, 1) := by decide +kernel
theorem dX3_fillWords_49 : decode cX3_fillWords 49 = .ok (.istore 9, 2) := by decide +kernel
theorem dX3_fillWords_51 : decode cX3_fillWords 51 = .ok (.iload 9, 2) := by decide +kernel
theorem dX3_fillWords_53 : decode cX3_fillWords 53 = .ok (.aload_n 1, 1) := by decide +kernel
theorem dX3_fillWords_54 : decode cX3_fillWords 54 = .ok (.invokevirtual 39, 3) := by decide +kernel
theorem dX3_fillWords_57 : decode cX3_fillWords 57 = .ok (.if_icmp .ge 43, 3) := by decide +kernel
theorem dX3_fillWords_60 : decode cX3_fillWords 60 = .ok (.aload_n 1, 1) := by decide +kernel
theorem dX3_fillWords_61 : decode cX3_fillWords 61 = .ok (.iload 9, 2) := by decide +kernel
theorem dX3_fillWords_63 : decode cX3_fillWords 63 = .ok (.iload 6, 2) := by decide +kernel
theorem dX3_fillWords_65 : decode cX3_fillWords 65 = .ok (.invokevirtual 47, 3) := by decide +kernel
theorem dX3_fillWords_68 : decode cX3_fillWords 68 = .ok (.istore 10, 2) := by decide +kernel
theorem dX3_fillWords_70 : decode cX3_fillWords 70 = .ok (.aload_n 0, 1) := by decide +kernel
theorem dX3_fillWords_71 : decode cX3_fillWords 71 = .ok (.getfield 11, 3) := by decide +kernel
theorem dX3_fillWords_74 : decode cX3_fillWords 74 = .ok (.iload 5, 2) := by decide +kernel
theorem dX3_fillWords_76 : decode cX3_fillWords 76 = .ok (.aaload, 1) := by decide +kernel
theorem dX3_fillWords_77 : decode cX3_fillWords 77 = .ok (.iload 9, 2) := by decide +kernel
theorem dX3_fillWords_79 : decode cX3_fillWords 79 = .ok (.dload 7, 2) := by decide +kernel
theorem dX3_fillWords_81 : decode cX3_fillWords 81 = .ok (.iload 10, 2) := by decide +kernel
theorem dX3_fillWords_83 : decode cX3_fillWords 83 = .ok (.aload_n 1, 1) := by decide +kernel
theorem dX3_fillWords_84 : decode cX3_fillWords 84 = .ok (.iload 9, 2) := by decide +kernel
theorem dX3_fillWords_86 : decode cX3_fillWords 86 = .ok (.invokevirtual 51, 3) := by decide +kernel
theorem dX3_fillWords_89 : decode cX3_fillWords 89 = .ok (.dload_n 3, 1) := by decide +kernel
theorem dX3_fillWords_90 : decode cX3_fillWords 90 = .ok (.invokestatic 54, 3) := by decide +kernel
theorem dX3_fillWords_93 : decode cX3_fillWords 93 = .ok (.dastore, 1) := by decide +kernel
theorem dX3_fillWords_94 : decode cX3_fillWords 94 = .ok (.iinc 9 1, 3) := by decide +kernel
theorem dX3_fillWords_97 : decode cX3_fillWords 97 = .ok (.goto (-46), 3) := by decide +kernel
theorem dX3_fillWords_100 : decode cX3_fillWords 100 = .ok (.iinc 5 1, 3) := by decide +kernel
theorem dX3_fillWords_103 : decode cX3_fillWords 103 = .ok (.goto (-87), 3) := by decide +kernel
theorem dX3_fillWords_106 : decode cX3_fillWords 106 = .ok (.aload_n 0, 1) := by decide +kernel
theorem dX3_fillWords_107 : decode cX3_fillWords 107 = .ok (.aload_n 1, 1) := by decide +kernel
theorem dX3_fillWords_108 : decode cX3_fillWords 108 = .ok (.invokevirtual 39, 3) := by decide +kernel
theorem dX3_fillWords_111 : decode cX3_fillWords 111 = .ok (.invokevirtual 58, 3) := by decide +kernel
theorem dX3_fillWords_114 : decode cX3_fillWords 114 = .ok (.return_, 1) := by decide +kernel
set_option maxRecDepth 20000 in
theorem ggX3_fillImpacts_X6_size : GoodIn wsX3_fillImpacts wsX6_size := goodIn_r _ [7, 8, 48, 49, 50] (by decide +kernel) (by decide +kernel)
set_option maxRecDepth 20000 in
theorem gX3_fillImpacts_X6_size : GoodIn wsX3_fillImpacts (wsV RX3 19 RX6 yX6_size wsX6_size) := goodIn_app (goodIn_of _ (by decide +kernel)) ggX3_fillImpacts_X6_size
set_option maxRecDepth 20000 in
theorem ggX3_fillImpacts_X0_greatestWeight : GoodIn wsX3_fillImpacts wsX0_greatestWeight := goodIn_r _ [13, 14, 15, 16, 17, 18, 51, 52, 53, 54, 55, 56] (by decide +kernel) (by decide +kernel)
set_option maxRecDepth 20000 in
theorem gX3_fillImpacts_X0_greatestWeight : GoodIn wsX3_fillImpacts (wsV RX3 62 RX0 yX0_greatestWeight wsX0_greatestWeight) := goodIn_app (goodIn_of _ (by decide +kernel)) ggX3_fillImpacts_X0_greatestWeight
set_option maxRecDepth 20000 in
theorem ggX3_fillImpacts_X0_size : GoodIn wsX3_fillImpacts wsX0_size := goodIn_r _ [22, 14, 51, 52, 53, 54, 55, 56] (by decide +kernel) (by decide +kernel)
set_option maxRecDepth 20000 in
theorem gX3_fillImpacts_X0_size : GoodIn wsX3_fillImpacts (wsV RX3 39 RX0 yX0_size wsX0_size) := goodIn_app (goodIn_of _ (by decide +kernel)) ggX3_fillImpacts_X0_size
set_option maxRecDepth 20000 in
theorem ggX3_fillImpacts_X6_termAt : GoodIn wsX3_fillImpacts wsX6_termAt := goodIn_r _ [26, 27, 48, 49, 50] (by decide +kernel) (by decide +kernel)
set_option maxRecDepth 20000 in
theorem gX3_fillImpacts_X6_termAt : GoodIn wsX3_fillImpacts (wsV RX3 35 RX6 yX6_termAt wsX6_termAt) := goodIn_app (goodIn_of _ (by decide +kernel)) ggX3_fillImpacts_X6_termAt
set_option maxRecDepth 20000 in
theorem ggX3_fillImpacts_X0_impactOf : GoodIn wsX3_fillImpacts wsX0_impactOf := goodIn_r _ [31, 15, 32, 33, 51, 52, 53, 54, 55, 56] (by decide +kernel) (by decide +kernel)
set_option maxRecDepth 20000 in
theorem gX3_fillImpacts_X0_impactOf : GoodIn wsX3_fillImpacts (wsV RX3 66 RX0 yX0_impactOf wsX0_impactOf) := goodIn_app (goodIn_of _ (by decide +kernel)) ggX3_fillImpacts_X0_impactOf
set_option maxRecDepth 20000 in
theorem ggX3_fillImpacts_X6_weightAt : GoodIn wsX3_fillImpacts wsX6_weightAt := goodIn_r _ [37, 38, 48, 49, 50] (by decide +kernel) (by decide +kernel)
set_option maxRecDepth 20000 in
theorem gX3_fillImpacts_X6_weightAt : GoodIn wsX3_fillImpacts (wsV RX3 70 RX6 yX6_weightAt wsX6_weightAt) := goodIn_app (goodIn_of _ (by decide +kernel)) ggX3_fillImpacts_X6_weightAt
set_option maxRecDepth 20000 in
theorem ggX3_fillImpacts_X3_fillBounds : GoodIn wsX3_fillImpacts wsX3_fillBounds := goodIn_r _ [43, 1, 44, 2, 45, 46, 47] (by decide +kernel) (by decide +kernel)
set_option maxRecDepth 20000 in
theorem gX3_fillImpacts_X3_fillBounds : GoodIn wsX3_fillImpacts (wsV RX3 58 RX3 yX3_fillBounds wsX3_fillBounds) := goodIn_app (goodIn_of _ (by decide +kernel)) ggX3_fillImpacts_X3_fillBounds
theorem dX3_fillImpacts_0 : decode cX3_fillImpacts 0 = .ok (.aload_n 0, 1) := by decide +kernel
theorem dX3_fillImpacts_1 : decode cX3_fillImpacts 1 = .ok (.aload_n 2, 1) := by decide +kernel
theorem dX3_fillImpacts_2 : decode cX3_fillImpacts 2 = .ok (.invokevirtual 19, 3) := by decide +kernel
theorem dX3_fillImpacts_5 : decode cX3_fillImpacts 5 = .ok (.putfield 25, 3) := by decide +kernel
theorem dX3_fillImpacts_8 : decode cX3_fillImpacts 8 = .ok (.aload_n 1, 1) := by decide +kernel
theorem dX3_fillImpacts_9 : decode cX3_fillImpacts 9 = .ok (.invokevirtual 62, 3) := by decide +kernel
theorem dX3_fillImpacts_12 : decode cX3_fillImpacts 12 = .ok (.fstore_n 3, 1) := by decide +kernel
theorem dX3_fillImpacts_13 : decode cX3_fillImpacts 13 = .ok (.iconst 0, 1) := by decide +kernel
theorem dX3_fillImpacts_14 : decode cX3_fillImpacts 14 = .ok (.istore 4, 2) := by decide +kernel
theorem dX3_fillImpacts_16 : decode cX3_fillImpacts 16 = .ok (.iload 4, 2) := by decide +kernel
theorem dX3_fillImpacts_18 : decode cX3_fillImpacts 18 = .ok (.aload_n 0, 1) := by decide +kernel
theorem dX3_fillImpacts_19 : decode cX3_fillImpacts 19 = .ok (.getfield 25, 3) := by decide +kernel
theorem dX3_fillImpacts_22 : decode cX3_fillImpacts 22 = .ok (.if_icmp .ge 64, 3) := by decide +kernel
theorem dX3_fillImpacts_25 : decode cX3_fillImpacts 25 = .ok (.iconst 0, 1) := by decide +kernel
theorem dX3_fillImpacts_26 : decode cX3_fillImpacts 26 = .ok (.istore 5, 2) := by decide +kernel
theorem dX3_fillImpacts_28 : decode cX3_fillImpacts 28 = .ok (.iload 5, 2) := by decide +kernel
theorem dX3_fillImpacts_30 : decode cX3_fillImpacts 30 = .ok (.aload_n 1, 1) := by decide +kernel
theorem dX3_fillImpacts_31 : decode cX3_fillImpacts 31 = .ok (.invokevirtual 39, 3) := by decide +kernel
theorem dX3_fillImpacts_34 : decode cX3_fillImpacts 34 = .ok (.if_icmp .ge 46, 3) := by decide +kernel
theorem dX3_fillImpacts_37 : decode cX3_fillImpacts 37 = .ok (.aload_n 1, 1) := by decide +kernel
theorem dX3_fillImpacts_38 : decode cX3_fillImpacts 38 = .ok (.iload 5, 2) := by decide +kernel
theorem dX3_fillImpacts_40 : decode cX3_fillImpacts 40 = .ok (.aload_n 2, 1) := by decide +kernel
theorem dX3_fillImpacts_41 : decode cX3_fillImpacts 41 = .ok (.iload 4, 2) := by decide +kernel
theorem dX3_fillImpacts_43 : decode cX3_fillImpacts 43 = .ok (.invokevirtual 35, 3) := by decide +kernel
theorem dX3_fillImpacts_46 : decode cX3_fillImpacts 46 = .ok (.fload_n 3, 1) := by decide +kernel
theorem dX3_fillImpacts_47 : decode cX3_fillImpacts 47 = .ok (.invokevirtual 66, 3) := by decide +kernel
theorem dX3_fillImpacts_50 : decode cX3_fillImpacts 50 = .ok (.i2l, 1) := by decide +kernel
theorem dX3_fillImpacts_51 : decode cX3_fillImpacts 51 = .ok (.lstore 6, 2) := by decide +kernel
theorem dX3_fillImpacts_53 : decode cX3_fillImpacts 53 = .ok (.aload_n 0, 1) := by decide +kernel
theorem dX3_fillImpacts_54 : decode cX3_fillImpacts 54 = .ok (.getfield 11, 3) := by decide +kernel
theorem dX3_fillImpacts_57 : decode cX3_fillImpacts 57 = .ok (.iload 4, 2) := by decide +kernel
theorem dX3_fillImpacts_59 : decode cX3_fillImpacts 59 = .ok (.aaload, 1) := by decide +kernel
theorem dX3_fillImpacts_60 : decode cX3_fillImpacts 60 = .ok (.iload 5, 2) := by decide +kernel
theorem dX3_fillImpacts_62 : decode cX3_fillImpacts 62 = .ok (.aload_n 2, 1) := by decide +kernel
theorem dX3_fillImpacts_63 : decode cX3_fillImpacts 63 = .ok (.iload 4, 2) := by decide +kernel
theorem dX3_fillImpacts_65 : decode cX3_fillImpacts 65 = .ok (.invokevirtual 70, 3) := by decide +kernel
theorem dX3_fillImpacts_68 : decode cX3_fillImpacts 68 = .ok (.i2l, 1) := by decide +kernel
theorem dX3_fillImpacts_69 : decode cX3_fillImpacts 69 = .ok (.lload 6, 2) := by decide +kernel
theorem dX3_fillImpacts_71 : decode cX3_fillImpacts 71 = .ok (.lmul, 1) := by decide +kernel
theorem dX3_fillImpacts_72 : decode cX3_fillImpacts 72 = .ok (.l2d, 1) := by decide +kernel
theorem dX3_fillImpacts_73 : decode cX3_fillImpacts 73 = .ok (.dastore, 1) := by decide +kernel
theorem dX3_fillImpacts_74 : decode cX3_fillImpacts 74 = .ok (.iinc 5 1, 3) := by decide +kernel
theorem dX3_fillImpacts_77 : decode cX3_fillImpacts 77 = .ok (.goto (-49), 3) := by decide +kernel
theorem dX3_fillImpacts_80 : decode cX3_fillImpacts 80 = .ok (.iinc 4 1, 3) := by decide +kernel
theorem dX3_fillImpacts_83 : decode cX3_fillImpacts 83 = .ok (.goto (-67), 3) := by decide +kernel
theorem dX3_fillImpacts_86 : decode cX3_fillImpacts 86 = .ok (.aload_n 0, 1) := by decide +kernel
theorem dX3_fillImpacts_87 : decode cX3_fillImpacts 87 = .ok (.aload_n 1, 1) := by decide +kernel
theorem dX3_fillImpacts_88 : decode cX3_fillImpacts 88 = .ok (.invokevirtual 39, 3) := by decide +kernel
theorem dX3_fillImpacts_91 : decode cX3_fillImpacts 91 = .ok (.invokevirtual 58, 3) := by decide +kernel
theorem dX3_fillImpacts_94 : decode cX3_fillImpacts 94 = .ok (.return_, 1) := by decide +kernel
theorem dX3_fillBounds_0 : decode cX3_fillBounds 0 = .ok (.iconst 0, 1) := by decide +kernel
theorem dX3_fillBounds_1 : decode cX3_fillBounds 1 = .ok (.istore_n 2, 1) := by decide +kernel
theorem dX3_fillBounds_2 : decode cX3_fillBounds 2 = .ok (.iload_n 2, 1) := by decide +kernel
theorem dX3_fillBounds_3 : decode cX3_fillBounds 3 = .ok (.aload_n 0, 1) := by decide +kernel
theorem dX3_fillBounds_4 : decode cX3_fillBounds 4 = .ok (.getfield 25, 3) := by decide +kernel
theorem dX3_fillBounds_7 : decode cX3_fillBounds 7 = .ok (.if_icmp .ge 87, 3) := by decide +kernel
theorem dX3_fillBounds_10 : decode cX3_fillBounds 10 = .ok (.iconst 0, 1) := by decide +kernel
theorem dX3_fillBounds_11 : decode cX3_fillBounds 11 = .ok (.istore_n 3, 1) := by decide +kernel
theorem dX3_fillBounds_12 : decode cX3_fillBounds 12 = .ok (.iload_n 3, 1) := by decide +kernel
theorem dX3_fillBounds_13 : decode cX3_fillBounds 13 = .ok (.iconst 4, 1) := by decide +kernel
theorem dX3_fillBounds_14 : decode cX3_fillBounds 14 = .ok (.if_icmp .ge 18, 3) := by decide +kernel
theorem dX3_fillBounds_17 : decode cX3_fillBounds 17 = .ok (.aload_n 0, 1) := by decide +kernel
theorem dX3_fillBounds_18 : decode cX3_fillBounds 18 = .ok (.getfield 16, 3) := by decide +kernel
theorem dX3_fillBounds_21 : decode cX3_fillBounds 21 = .ok (.iload_n 2, 1) := by decide +kernel
theorem dX3_fillBounds_22 : decode cX3_fillBounds 22 = .ok (.aaload, 1) := by decide +kernel
theorem dX3_fillBounds_23 : decode cX3_fillBounds 23 = .ok (.iload_n 3, 1) := by decide +kernel
theorem dX3_fillBounds_24 : decode cX3_fillBounds 24 = .ok (.dconst 0, 1) := by decide +kernel
theorem dX3_fillBounds_25 : decode cX3_fillBounds 25 = .ok (.dastore, 1) := by decide +kernel
theorem dX3_fillBounds_26 : decode cX3_fillBounds 26 = .ok (.iinc 3 1, 3) := by decide +kernel
theorem dX3_fillBounds_29 : decode cX3_fillBounds 29 = .ok (.goto (-17), 3) := by decide +kernel
theorem dX3_fillBounds_32 : decode cX3_fillBounds 32 = .ok (.iconst 0, 1) := by decide +kernel
theorem dX3_fillBounds_33 : decode cX3_fillBounds 33 = .ok (.istore_n 3, 1) := by decide +kernel
theorem dX3_fillBounds_34 : decode cX3_fillBounds 34 = .ok (.iload_n 3, 1) := by decide +kernel
theorem dX3_fillBounds_35 : decode cX3_fillBounds 35 = .ok (.iload_n 1, 1) := by decide +kernel
theorem dX3_fillBounds_36 : decode cX3_fillBounds 36 = .ok (.if_icmp .ge 52, 3) := by decide +kernel
theorem dX3_fillBounds_39 : decode cX3_fillBounds 39 = .ok (.iload_n 3, 1) := by decide +kernel
theorem dX3_fillBounds_40 : decode cX3_fillBounds 40 = .ok (.iconst 4, 1) := by decide +kernel
theorem dX3_fillBounds_41 : decode cX3_fillBounds 41 = .ok (.idiv, 1) := by decide +kernel
theorem dX3_fillBounds_42 : decode cX3_fillBounds 42 = .ok (.istore 4, 2) := by decide +kernel
theorem dX3_fillBounds_44 : decode cX3_fillBounds 44 = .ok (.aload_n 0, 1) := by decide +kernel
theorem dX3_fillBounds_45 : decode cX3_fillBounds 45 = .ok (.getfield 11, 3) := by decide +kernel
theorem dX3_fillBounds_48 : decode cX3_fillBounds 48 = .ok (.iload_n 2, 1) := by decide +kernel
theorem dX3_fillBounds_49 : decode cX3_fillBounds 49 = .ok (.aaload, 1) := by decide +kernel
theorem dX3_fillBounds_50 : decode cX3_fillBounds 50 = .ok (.iload_n 3, 1) := by decide +kernel
theorem dX3_fillBounds_51 : decode cX3_fillBounds 51 = .ok (.daload, 1) := by decide +kernel
theorem dX3_fillBounds_52 : decode cX3_fillBounds 52 = .ok (.aload_n 0, 1) := by decide +kernel
theorem dX3_fillBounds_53 : decode cX3_fillBounds 53 = .ok (.getfield 16, 3) := by decide +kernel
theorem dX3_fillBounds_56 : decode cX3_fillBounds 56 = .ok (.iload_n 2, 1) := by decide +kernel
theorem dX3_fillBounds_57 : decode cX3_fillBounds 57 = .ok (.aaload, 1) := by decide +kernel
theorem dX3_fillBounds_58 : decode cX3_fillBounds 58 = .ok (.iload 4, 2) := by decide +kernel
theorem dX3_fillBounds_60 : decode cX3_fillBounds 60 = .ok (.daload, 1) := by decide +kernel
theorem dX3_fillBounds_61 : decode cX3_fillBounds 61 = .ok (.dcmp .l, 1) := by decide +kernel
theorem dX3_fillBounds_62 : decode cX3_fillBounds 62 = .ok (.ifCond .le 20, 3) := by decide +kernel
theorem dX3_fillBounds_65 : decode cX3_fillBounds 65 = .ok (.aload_n 0, 1) := by decide +kernel
theorem dX3_fillBounds_66 : decode cX3_fillBounds 66 = .ok (.getfield 16, 3) := by decide +kernel
theorem dX3_fillBounds_69 : decode cX3_fillBounds 69 = .ok (.iload_n 2, 1) := by decide +kernel
theorem dX3_fillBounds_70 : decode cX3_fillBounds 70 = .ok (.aaload, 1) := by decide +kernel
theorem dX3_fillBounds_71 : decode cX3_fillBounds 71 = .ok (.iload 4, 2) := by decide +kernel
theorem dX3_fillBounds_73 : decode cX3_fillBounds 73 = .ok (.aload_n 0, 1) := by decide +kernel
theorem dX3_fillBounds_74 : decode cX3_fillBounds 74 = .ok (.getfield 11, 3) := by decide +kernel
theorem dX3_fillBounds_77 : decode cX3_fillBounds 77 = .ok (.iload_n 2, 1) := by decide +kernel
theorem dX3_fillBounds_78 : decode cX3_fillBounds 78 = .ok (.aaload, 1) := by decide +kernel
theorem dX3_fillBounds_79 : decode cX3_fillBounds 79 = .ok (.iload_n 3, 1) := by decide +kernel
theorem dX3_fillBounds_80 : decode cX3_fillBounds 80 = .ok (.daload, 1) := by decide +kernel
theorem dX3_fillBounds_81 : decode cX3_fillBounds 81 = .ok (.dastore, 1) := by decide +kernel
theorem dX3_fillBounds_82 : decode cX3_fillBounds 82 = .ok (.iinc 3 1, 3) := by decide +kernel
theorem dX3_fillBounds_85 : decode cX3_fillBounds 85 = .ok (.goto (-51), 3) := by decide +kernel
theorem dX3_fillBounds_88 : decode cX3_fillBounds 88 = .ok (.iinc 2 1, 3) := by decide +kernel
theorem dX3_fillBounds_91 : decode cX3_fillBounds 91 = .ok (.goto (-89), 3) := by decide +kernel
theorem dX3_fillBounds_94 : decode cX3_fillBounds 94 = .ok (.return_, 1) := by decide +kernel
theorem dX3_matches_0 : decode cX3_matches 0 = .ok (.iconst 0, 1) := by decide +kernel
theorem dX3_matches_1 : decode cX3_matches 1 = .ok (.istore_n 2, 1) := by decide +kernel
theorem dX3_matches_2 : decode cX3_matches 2 = .ok (.iload_n 2, 1) := by decide +kernel
theorem dX3_matches_3 : decode cX3_matches 3 = .ok (.aload_n 0, 1) := by decide +kernel
theorem dX3_matches_4 : decode cX3_matches 4 = .ok (.getfield 25, 3) := by decide +kernel
theorem dX3_matches_7 : decode cX3_matches 7 = .ok (.if_icmp .ge 24, 3) := by decide +kernel
theorem dX3_matches_10 : decode cX3_matches 10 = .ok (.aload_n 0, 1) := by decide +kernel
theorem dX3_matches_11 : decode cX3_matches 11 = .ok (.getfield 11, 3) := by decide +kernel
theorem dX3_matches_14 : decode cX3_matches 14 = .ok (.iload_n 2, 1) := by decide +kernel
theorem dX3_matches_15 : decode cX3_matches 15 = .ok (.aaload, 1) := by decide +kernel
theorem dX3_matches_16 : decode cX3_matches 16 = .ok (.iload_n 1, 1) := by decide +kernel
theorem dX3_matches_17 : decode cX3_matches 17 = .ok (.daload, 1) := by decide +kernel
theorem dX3_matches_18 : decode cX3_matches 18 = .ok (.dconst 0, 1) := by decide +kernel
theorem dX3_matches_19 : decode cX3_matches 19 = .ok (.dcmp .l, 1) := by decide +kernel
theorem dX3_matches_20 : decode cX3_matches 20 = .ok (.ifCond .le 5, 3) := by decide +kernel
theorem dX3_matches_23 : decode cX3_matches 23 = .ok (.iconst 1, 1) := by decide +kernel
theorem dX3_matches_24 : decode cX3_matches 24 = .ok (.ireturn, 1) := by decide +kernel
theorem dX3_matches_25 : decode cX3_matches 25 = .ok (.iinc 2 1, 3) := by decide +kernel
theorem dX3_matches_28 : decode cX3_matches 28 = .ok (.goto (-26), 3) := by decide +kernel
theorem dX3_matches_31 : decode cX3_matches 31 = .ok (.iconst 0, 1) := by decide +kernel
theorem dX3_matches_32 : decode cX3_matches 32 = .ok (.ireturn, 1) := by decide +kernel
theorem dX3_scoreOf_0 : decode cX3_scoreOf 0 = .ok (.dconst 0, 1) := by decide +kernel
theorem dX3_scoreOf_1 : decode cX3_scoreOf 1 = .ok (.dstore_n 2, 1) := by decide +kernel
theorem dX3_scoreOf_2 : decode cX3_scoreOf 2 = .ok (.iconst 0, 1) := by decide +kernel
theorem dX3_scoreOf_3 : decode cX3_scoreOf 3 = .ok (.istore 4, 2) := by decide +kernel
theorem dX3_scoreOf_5 : decode cX3_scoreOf 5 = .ok (.iload 4, 2) := by decide +kernel
theorem dX3_scoreOf_7 : decode cX3_scoreOf 7 = .ok (.aload_n 0, 1) := by decide +kernel
theorem dX3_scoreOf_8 : decode cX3_scoreOf 8 = .ok (.getfield 25, 3) := by decide +kernel
theorem dX3_scoreOf_11 : decode cX3_scoreOf 11 = .ok (.if_icmp .ge 35, 3) := by decide +kernel
theorem dX3_scoreOf_14 : decode cX3_scoreOf 14 = .ok (.aload_n 0, 1) := by decide +kernel
theorem dX3_scoreOf_15 : decode cX3_scoreOf 15 = .ok (.getfield 11, 3) := by decide +kernel
theorem dX3_scoreOf_18 : decode cX3_scoreOf 18 = .ok (.iload 4, 2) := by decide +kernel
theorem dX3_scoreOf_20 : decode cX3_scoreOf 20 = .ok (.aaload, 1) := by decide +kernel
theorem dX3_scoreOf_21 : decode cX3_scoreOf 21 = .ok (.iload_n 1, 1) := by decide +kernel
theorem dX3_scoreOf_22 : decode cX3_scoreOf 22 = .ok (.daload, 1) := by decide +kernel
theorem dX3_scoreOf_23 : decode cX3_scoreOf 23 = .ok (.dconst 0, 1) := by decide +kernel
theorem dX3_scoreOf_24 : decode cX3_scoreOf 24 = .ok (.dcmp .l, 1) := by decide +kernel
theorem dX3_scoreOf_25 : decode cX3_scoreOf 25 = .ok (.ifCond .le 15, 3) := by decide +kernel
theorem dX3_scoreOf_28 : decode cX3_scoreOf 28 = .ok (.dload_n 2, 1) := by decide +kernel
theorem dX3_scoreOf_29 : decode cX3_scoreOf 29 = .ok (.aload_n 0, 1) := by decide +kernel
theorem dX3_scoreOf_30 : decode cX3_scoreOf 30 = .ok (.getfield 11, 3) := by decide +kernel
theorem dX3_scoreOf_33 : decode cX3_scoreOf 33 = .ok (.iload 4, 2) := by decide +kernel
theorem dX3_scoreOf_35 : decode cX3_scoreOf 35 = .ok (.aaload, 1) := by decide +kernel
theorem dX3_scoreOf_36 : decode cX3_scoreOf 36 = .ok (.iload_n 1, 1) := by decide +kernel
theorem dX3_scoreOf_37 : decode cX3_scoreOf 37 = .ok (.daload, 1) := by decide +kernel
theorem dX3_scoreOf_38 : decode cX3_scoreOf 38 = .ok (.dadd, 1) := by decide +kernel
theorem dX3_scoreOf_39 : decode cX3_scoreOf 39 = .ok (.dstore_n 2, 1) := by decide +kernel
theorem dX3_scoreOf_40 : decode cX3_scoreOf 40 = .ok (.iinc 4 1, 3) := by decide +kernel
theorem dX3_scoreOf_43 : decode cX3_scoreOf 43 = .ok (.goto (-38), 3) := by decide +kernel
theorem dX3_scoreOf_46 : decode cX3_scoreOf 46 = .ok (.dload_n 2, 1) := by decide +kernel
theorem dX3_scoreOf_47 : decode cX3_scoreOf 47 = .ok (.dreturn, 1) := by decide +kernel
theorem dX3_blockBound_0 : decode cX3_blockBound 0 = .ok (.dconst 0, 1) := by decide +kernel
theorem dX3_blockBound_1 : decode cX3_blockBound 1 = .ok (.dstore_n 2, 1) := by decide +kernel
theorem dX3_blockBound_2 : decode cX3_blockBound 2 = .ok (.iconst 0, 1) := by decide +kernel
theorem dX3_blockBound_3 : decode cX3_blockBound 3 = .ok (.istore 4, 2) := by decide +kernel
theorem dX3_blockBound_5 : decode cX3_blockBound 5 = .ok (.iload 4, 2) := by decide +kernel
theorem dX3_blockBound_7 : decode cX3_blockBound 7 = .ok (.aload_n 0, 1) := by decide +kernel
theorem dX3_blockBound_8 : decode cX3_blockBound 8 = .ok (.getfield 25, 3) := by decide +kernel
theorem dX3_blockBound_11 : decode cX3_blockBound 11 = .ok (.if_icmp .ge 21, 3) := by decide +kernel
theorem dX3_blockBound_14 : decode cX3_blockBound 14 = .ok (.dload_n 2, 1) := by decide +kernel
theorem dX3_blockBound_15 : decode cX3_blockBound 15 = .ok (.aload_n 0, 1) := by decide +kernel
theorem dX3_blockBound_16 : decode cX3_blockBound 16 = .ok (.getfield 16, 3) := by decide +kernel
theorem dX3_blockBound_19 : decode cX3_blockBound 19 = .ok (.iload 4, 2) := by decide +kernel
theorem dX3_blockBound_21 : decode cX3_blockBound 21 = .ok (.aaload, 1) := by decide +kernel
theorem dX3_blockBound_22 : decode cX3_blockBound 22 = .ok (.iload_n 1, 1) := by decide +kernel
theorem dX3_blockBound_23 : decode cX3_blockBound 23 = .ok (.daload, 1) := by decide +kernel
theorem dX3_blockBound_24 : decode cX3_blockBound 24 = .ok (.dadd, 1) := by decide +kernel
theorem dX3_blockBound_25 : decode cX3_blockBound 25 = .ok (.dstore_n 2, 1) := by decide +kernel
theorem dX3_blockBound_26 : decode cX3_blockBound 26 = .ok (.iinc 4 1, 3) := by decide +kernel
theorem dX3_blockBound_29 : decode cX3_blockBound 29 = .ok (.goto (-24), 3) := by decide +kernel
theorem dX3_blockBound_32 : decode cX3_blockBound 32 = .ok (.dload_n 2, 1) := by decide +kernel
theorem dX3_blockBound_33 : decode cX3_blockBound 33 = .ok (.dreturn, 1) := by decide +kernel
theorem dX3_documentBound_0 : decode cX3_documentBound 0 = .ok (.dconst 0, 1) := by decide +kernel
theorem dX3_documentBound_1 : decode cX3_documentBound 1 = .ok (.dstore_n 2, 1) := by decide +kernel
theorem dX3_documentBound_2 : decode cX3_documentBound 2 = .ok (.iconst 0, 1) := by decide +kernel
theorem dX3_documentBound_3 : decode cX3_documentBound 3 = .ok (.istore 4, 2) := by decide +kernel
theorem dX3_documentBound_5 : decode cX3_documentBound 5 = .ok (.iload 4, 2) := by decide +kernel
theorem dX3_documentBound_7 : decode cX3_documentBound 7 = .ok (.aload_n 0, 1) := by decide +kernel
theorem dX3_documentBound_8 : decode cX3_documentBound 8 = .ok (.getfield 25, 3) := by decide +kernel
theorem dX3_documentBound_11 : decode cX3_documentBound 11 = .ok (.if_icmp .ge 37, 3) := by decide +kernel
theorem dX3_documentBound_14 : decode cX3_documentBound 14 = .ok (.aload_n 0, 1) := by decide +kernel
theorem dX3_documentBound_15 : decode cX3_documentBound 15 = .ok (.getfield 11, 3) := by decide +kernel
theorem dX3_documentBound_18 : decode cX3_documentBound 18 = .ok (.iload 4, 2) := by decide +kernel
theorem dX3_documentBound_20 : decode cX3_documentBound 20 = .ok (.aaload, 1) := by decide +kernel
theorem dX3_documentBound_21 : decode cX3_documentBound 21 = .ok (.iload_n 1, 1) := by decide +kernel
theorem dX3_documentBound_22 : decode cX3_documentBound 22 = .ok (.daload, 1) := by decide +kernel
theorem dX3_documentBound_23 : decode cX3_documentBound 23 = .ok (.dconst 0, 1) := by decide +kernel
theorem dX3_documentBound_24 : decode cX3_documentBound 24 = .ok (.dcmp .l, 1) := by decide +kernel
theorem dX3_documentBound_25 : decode cX3_documentBound 25 = .ok (.ifCond .le 17, 3) := by decide +kernel
theorem dX3_documentBound_28 : decode cX3_documentBound 28 = .ok (.dload_n 2, 1) := by decide +kernel
theorem dX3_documentBound_29 : decode cX3_documentBound 29 = .ok (.aload_n 0, 1) := by decide +kernel
theorem dX3_documentBound_30 : decode cX3_documentBound 30 = .ok (.getfield 16, 3) := by decide +kernel
theorem dX3_documentBound_33 : decode cX3_documentBound 33 = .ok (.iload 4, 2) := by decide +kernel
theorem dX3_documentBound_35 : decode cX3_documentBound 35 = .ok (.aaload, 1) := by decide +kernel
theorem dX3_documentBound_36 : decode cX3_documentBound 36 = .ok (.iload_n 1, 1) := by decide +kernel
theorem dX3_documentBound_37 : decode cX3_documentBound 37 = .ok (.iconst 4, 1) := by decide +kernel
theorem dX3_documentBound_38 : decode cX3_documentBound 38 = .ok (.idiv, 1) := by decide +kernel
theorem dX3_documentBound_39 : decode cX3_documentBound 39 = .ok (.daload, 1) := by decide +kernel
theorem dX3_documentBound_40 : decode cX3_documentBound 40 = .ok (.dadd, 1) := by decide +kernel
theorem dX3_documentBound_41 : decode cX3_documentBound 41 = .ok (.dstore_n 2, 1) := by decide +kernel
theorem dX3_documentBound_42 : decode cX3_documentBound 42 = .ok (.iinc 4 1, 3) := by decide +kernel
theorem dX3_documentBound_45 : decode cX3_documentBound 45 = .ok (.goto (-40), 3) := by decide +kernel
theorem dX3_documentBound_48 : decode cX3_documentBound 48 = .ok (.dload_n 2, 1) := by decide +kernel
theorem dX3_documentBound_49 : decode cX3_documentBound 49 = .ok (.dreturn, 1) := by decide +kernel
theorem dX4_init_0 : decode cX4_init 0 = .ok (.aload_n 0, 1) := by decide +kernel
theorem dX4_init_1 : decode cX4_init 1 = .ok (.invokespecial 3, 3) := by decide +kernel
theorem dX4_init_4 : decode cX4_init 4 = .ok (.aload_n 0, 1) := by decide +kernel
theorem dX4_init_5 : decode cX4_init 5 = .ok (.bipush 20, 2) := by decide +kernel
theorem dX4_init_7 : decode cX4_init 7 = .ok (.newarray .int, 2) := by decide +kernel
theorem dX4_init_9 : decode cX4_init 9 = .ok (.putfield 9, 3) := by decide +kernel
theorem dX4_init_12 : decode cX4_init 12 = .ok (.aload_n 0, 1) := by decide +kernel
theorem dX4_init_13 : decode cX4_init 13 = .ok (.bipush 20, 2) := by decide +kernel
theorem dX4_init_15 : decode cX4_init 15 = .ok (.newarray .double, 2) := by decide +kernel
theorem dX4_init_17 : decode cX4_init 17 = .ok (.putfield 15, 3) := by decide +kernel
theorem dX4_init_20 : decode cX4_init 20 = .ok (.return_, 1) := by decide +kernel
theorem dX4_start_0 : decode cX4_start 0 = .ok (.aload_n 0, 1) := by decide +kernel
theorem dX4_start_1 : decode cX4_start 1 = .ok (.iload_n 1, 1) := by decide +kernel
theorem dX4_start_2 : decode cX4_start 2 = .ok (.bipush 20, 2) := by decide +kernel
theorem dX4_start_4 : decode cX4_start 4 = .ok (.invokestatic 19, 3) := by decide +kernel
theorem dX4_start_7 : decode cX4_start 7 = .ok (.putfield 25, 3) := by decide +kernel
theorem dX4_start_10 : decode cX4_start 10 = .ok (.aload_n 0, 1) := by decide +kernel
theorem dX4_start_11 : decode cX4_start 11 = .ok (.iconst 0, 1) := by decide +kernel
theorem dX4_start_12 : decode cX4_start 12 = .ok (.putfield 29, 3) := by decide +kernel
theorem dX4_start_15 : decode cX4_start 15 = .ok (.return_, 1) := by decide +kernel
theorem dX4_size_0 : decode cX4_size 0 = .ok (.aload_n 0, 1) := by decide +kernel
theorem dX4_size_1 : decode cX4_size 1 = .ok (.getfield 29, 3) := by decide +kernel
theorem dX4_size_4 : decode cX4_size 4 = .ok (.ireturn, 1) := by decide +kernel
theorem dX4_holdsPlace_0 : decode cX4_holdsPlace 0 = .ok (.iload_n 1, 1) := by decide +kernel
theorem dX4_holdsPlace_1 : decode cX4_holdsPlace 1 = .ok (.ifCond .lt 15, 3) := by decide +kernel
theorem dX4_holdsPlace_4 : decode cX4_holdsPlace 4 = .ok (.iload_n 1, 1) := by decide +kernel
theorem dX4_holdsPlace_5 : decode cX4_holdsPlace 5 = .ok (.aload_n 0, 1) := by decide +kernel
theorem dX4_holdsPlace_6 : decode cX4_holdsPlace 6 = .ok (.getfield 29, 3) := by decide +kernel
theorem dX4_holdsPlace_9 : decode cX4_holdsPlace 9 = .ok (.if_icmp .ge 7, 3) := by decide +kernel
theorem dX4_holdsPlace_12 : decode cX4_holdsPlace 12 = .ok (.iconst 1, 1) := by decide +kernel
theorem dX4_holdsPlace_13 : decode cX4_holdsPlace 13 = .ok (.goto 4, 3) := by decide +kernel
theorem dX4_holdsPlace_16 : decode cX4_holdsPlace 16 = .ok (.iconst 0, 1) := by decide +kernel
theorem dX4_holdsPlace_17 : decode cX4_holdsPlace 17 = .ok (.ireturn, 1) := by decide +kernel
theorem dX4_documentAt_0 : decode cX4_documentAt 0 = .ok (.aload_n 0, 1) := by decide +kernel
theorem dX4_documentAt_1 : decode cX4_documentAt 1 = .ok (.getfield 9, 3) := by decide +kernel
theorem dX4_documentAt_4 : decode cX4_documentAt 4 = .ok (.iload_n 1, 1) := by decide +kernel
theorem dX4_documentAt_5 : decode cX4_documentAt 5 = .ok (.iaload, 1) := by decide +kernel
theorem dX4_documentAt_6 : decode cX4_documentAt 6 = .ok (.ireturn, 1) := by decide +kernel
theorem dX4_scoreAt_0 : decode cX4_scoreAt 0 = .ok (.aload_n 0, 1) := by decide +kernel
theorem dX4_scoreAt_1 : decode cX4_scoreAt 1 = .ok (.getfield 15, 3) := by decide +kernel
theorem dX4_scoreAt_4 : decode cX4_scoreAt 4 = .ok (.iload_n 1, 1) := by decide +kernel
theorem dX4_scoreAt_5 : decode cX4_scoreAt 5 = .ok (.daload, 1) := by decide +kernel
theorem dX4_scoreAt_6 : decode cX4_scoreAt 6 = .ok (.dreturn, 1) := by decide +kernel
theorem dX4_shutsOut_0 : decode cX4_shutsOut 0 = .ok (.aload_n 0, 1) := by decide +kernel
theorem dX4_shutsOut_1 : decode cX4_shutsOut 1 = .ok (.getfield 29, 3) := by decide +kernel
theorem dX4_shutsOut_4 : decode cX4_shutsOut 4 = .ok (.aload_n 0, 1) := by decide +kernel
theorem dX4_shutsOut_5 : decode cX4_shutsOut 5 = .ok (.getfield 25, 3) := by decide +kernel
theorem dX4_shutsOut_8 : decode cX4_shutsOut 8 = .ok (.if_icmp .ge 5, 3) := by decide +kernel
theorem dX4_shutsOut_11 : decode cX4_shutsOut 11 = .ok (.iconst 0, 1) := by decide +kernel
theorem dX4_shutsOut_12 : decode cX4_shutsOut 12 = .ok (.ireturn, 1) := by decide +kernel
theorem dX4_shutsOut_13 : decode cX4_shutsOut 13 = .ok (.aload_n 0, 1) := by decide +kernel
theorem dX4_shutsOut_14 : decode cX4_shutsOut 14 = .ok (.getfield 29, 3) := by decide +kernel
theorem dX4_shutsOut_17 : decode cX4_shutsOut 17 = .ok (.ifCond .eq 19, 3) := by decide +kernel
theorem dX4_shutsOut_20 : decode cX4_shutsOut 20 = .ok (.dload_n 1, 1) := by decide +kernel
theorem dX4_shutsOut_21 : decode cX4_shutsOut 21 = .ok (.aload_n 0, 1) := by decide +kernel
theorem dX4_shutsOut_22 : decode cX4_shutsOut 22 = .ok (.getfield 15, 3) := by decide +kernel
theorem dX4_shutsOut_25 : decode cX4_shutsOut 25 = .ok (.aload_n 0, 1) := by decide +kernel
theorem dX4_shutsOut_26 : decode cX4_shutsOut 26 = .ok (.getfield 29, 3) := by decide +kernel
theorem dX4_shutsOut_29 : decode cX4_shutsOut 29 = .ok (.iconst 1, 1) := by decide +kernel
theorem dX4_shutsOut_30 : decode cX4_shutsOut 30 = .ok (.isub, 1) := by decide +kernel
theorem dX4_shutsOut_31 : decode cX4_shutsOut 31 = .ok (.daload, 1) := by decide +kernel
theorem dX4_shutsOut_32 : decode cX4_shutsOut 32 = .ok (.dcmp .l, 1) := by decide +kernel
theorem dX4_shutsOut_33 : decode cX4_shutsOut 33 = .ok (.ifCond .gt 7, 3) := by decide +kernel
theorem dX4_shutsOut_36 : decode cX4_shutsOut 36 = .ok (.iconst 1, 1) := by decide +kernel
theorem dX4_shutsOut_37 : decode cX4_shutsOut 37 = .ok (.goto 4, 3) := by decide +kernel
theorem dX4_shutsOut_40 : decode cX4_shutsOut 40 = .ok (.iconst 0, 1) := by decide +kernel
theorem dX4_shutsOut_41 : decode cX4_shutsOut 41 = .ok (.ireturn, 1) := by decide +kernel
set_option maxRecDepth 20000 in
theorem ggX4_offer_X4_isBefore : GoodIn wsX4_offer wsX4_isBefore := goodIn_r _ [9, 4, 3, 10, 11, 12, 13] (by decide +kernel) (by decide +kernel)
set_option maxRecDepth 20000 in
theorem gX4_offer_X4_isBefore : GoodIn wsX4_offer (wsV RX4 32 RX4 yX4_isBefore wsX4_isBefore) := goodIn_app (goodIn_of _ (by decide +kernel)) ggX4_offer_X4_isBefore
theorem dX4_offer_0 : decode cX4_offer 0 = .ok (.aload_n 0, 1) := by decide +kernel
theorem dX4_offer_1 : decode cX4_offer 1 = .ok (.getfield 29, 3) := by decide +kernel
theorem dX4_offer_4 : decode cX4_offer 4 = .ok (.istore 4, 2) := by decide +kernel
theorem dX4_offer_6 : decode cX4_offer 6 = .ok (.iload 4, 2) := by decide +kernel
theorem dX4_offer_8 : decode cX4_offer 8 = .ok (.ifCond .le 22, 3) := by decide +kernel
theorem dX4_offer_11 : decode cX4_offer 11 = .ok (.aload_n 0, 1) := by decide +kernel
theorem dX4_offer_12 : decode cX4_offer 12 = .ok (.iload_n 1, 1) := by decide +kernel
theorem dX4_offer_13 : decode cX4_offer 13 = .ok (.dload_n 2, 1) := by decide +kernel
theorem dX4_offer_14 : decode cX4_offer 14 = .ok (.iload 4, 2) := by decide +kernel
theorem dX4_offer_16 : decode cX4_offer 16 = .ok (.iconst 1, 1) := by decide +kernel
theorem dX4_offer_17 : decode cX4_offer 17 = .ok (.isub, 1) := by decide +kernel
theorem dX4_offer_18 : decode cX4_offer 18 = .ok (.invokevirtual 32, 3) := by decide +kernel
theorem dX4_offer_21 : decode cX4_offer 21 = .ok (.ifCond .eq 9, 3) := by decide +kernel
theorem dX4_offer_24 : decode cX4_offer 24 = .ok (.iinc 4 (-1), 3) := by decide +kernel
theorem dX4_offer_27 : decode cX4_offer 27 = .ok (.goto (-21), 3) := by decide +kernel
theorem dX4_offer_30 : decode cX4_offer 30 = .ok (.iload 4, 2) := by decide +kernel
theorem dX4_offer_32 : decode cX4_offer 32 = .ok (.aload_n 0, 1) := by decide +kernel
theorem dX4_offer_33 : decode cX4_offer 33 = .ok (.getfield 25, 3) := by decide +kernel
theorem dX4_offer_36 : decode cX4_offer 36 = .ok (.if_icmp .lt 4, 3) := by decide +kernel
theorem dX4_offer_39 : decode cX4_offer 39 = .ok (.return_, 1) := by decide +kernel
theorem dX4_offer_40 : decode cX4_offer 40 = .ok (.aload_n 0, 1) := by decide +kernel
theorem dX4_offer_41 : decode cX4_offer 41 = .ok (.getfield 29, 3) := by decide +kernel
theorem dX4_offer_44 : decode cX4_offer 44 = .ok (.aload_n 0, 1) := by decide +kernel
theorem dX4_offer_45 : decode cX4_offer 45 = .ok (.getfield 25, 3) := by decide +kernel
theorem dX4_offer_48 : decode cX4_offer 48 = .ok (.if_icmp .ge 13, 3) := by decide +kernel
theorem dX4_offer_51 : decode cX4_offer 51 = .ok (.aload_n 0, 1) := by decide +kernel
theorem dX4_offer_52 : decode cX4_offer 52 = .ok (.dup, 1) := by decide +kernel
theorem dX4_offer_53 : decode cX4_offer 53 = .ok (.getfield 29, 3) := by decide +kernel
theorem dX4_offer_56 : decode cX4_offer 56 = .ok (.iconst 1, 1) := by decide +kernel
theorem dX4_offer_57 : decode cX4_offer 57 = .ok (.iadd, 1) := by decide +kernel
theorem dX4_offer_58 : decode cX4_offer 58 = .ok (.putfield 29, 3) := by decide +kernel
theorem dX4_offer_61 : decode cX4_offer 61 = .ok (.aload_n 0, 1) := by decide +kernel
theorem dX4_offer_62 : decode cX4_offer 62 = .ok (.getfield 29, 3) := by decide +kernel
theorem dX4_offer_65 : decode cX4_offer 65 = .ok (.iconst 1, 1) := by decide +kernel
theorem dX4_offer_66 : decode cX4_offer 66 = .ok (.isub, 1) := by decide +kernel
theorem dX4_offer_67 : decode cX4_offer 67 = .ok (.istore 5, 2) := by decide +kernel
theorem dX4_offer_69 : decode cX4_offer 69 = .ok (.iload 5, 2) := by decide +kernel
theorem dX4_offer_71 : decode cX4_offer 71 = .ok (.iload 4, 2) := by decide +kernel
theorem dX4_offer_73 : decode cX4_offer 73 = .ok (.if_icmp .le 41, 3) := by decide +kernel
theorem dX4_offer_76 : decode cX4_offer 76 = .ok (.aload_n 0, 1) := by decide +kernel
theorem dX4_offer_77 : decode cX4_offer 77 = .ok (.getfield 9, 3) := by decide +kernel
theorem dX4_offer_80 : decode cX4_offer 80 = .ok (.iload 5, 2) := by decide +kernel
theorem dX4_offer_82 : decode cX4_offer 82 = .ok (.aload_n 0, 1) := by decide +kernel
theorem dX4_offer_83 : decode cX4_offer 83 = .ok (.getfield 9, 3) := by decide +kernel
theorem dX4_offer_86 : decode cX4_offer 86 = .ok (.iload 5, 2) := by decide +kernel
theorem dX4_offer_88 : decode cX4_offer 88 = .ok (.iconst 1, 1) := by decide +kernel
theorem dX4_offer_89 : decode cX4_offer 89 = .ok (.isub, 1) := by decide +kernel
theorem dX4_offer_90 : decode cX4_offer 90 = .ok (.iaload, 1) := by decide +kernel
theorem dX4_offer_91 : decode cX4_offer 91 = .ok (.iastore, 1) := by decide +kernel
theorem dX4_offer_92 : decode cX4_offer 92 = .ok (.aload_n 0, 1) := by decide +kernel
theorem dX4_offer_93 : decode cX4_offer 93 = .ok (.getfield 15, 3) := by decide +kernel
theorem dX4_offer_96 : decode cX4_offer 96 = .ok (.iload 5, 2) := by decide +kernel
theorem dX4_offer_98 : decode cX4_offer 98 = .ok (.aload_n 0, 1) := by decide +kernel
theorem dX4_offer_99 : decode cX4_offer 99 = .ok (.getfield 15, 3) := by decide +kernel
theorem dX4_offer_102 : decode cX4_offer 102 = .ok (.iload 5, 2) := by decide +kernel
theorem dX4_offer_104 : decode cX4_offer 104 = .ok (.iconst 1, 1) := by decide +kernel
theorem dX4_offer_105 : decode cX4_offer 105 = .ok (.isub, 1) := by decide +kernel
theorem dX4_offer_106 : decode cX4_offer 106 = .ok (.daload, 1) := by decide +kernel
theorem dX4_offer_107 : decode cX4_offer 107 = .ok (.dastore, 1) := by decide +kernel
theorem dX4_offer_108 : decode cX4_offer 108 = .ok (.iinc 5 (-1), 3) := by decide +kernel
theorem dX4_offer_111 : decode cX4_offer 111 = .ok (.goto (-42), 3) := by decide +kernel
theorem dX4_offer_114 : decode cX4_offer 114 = .ok (.aload_n 0, 1) := by decide +kernel
theorem dX4_offer_115 : decode cX4_offer 115 = .ok (.getfield 9, 3) := by decide +kernel
theorem dX4_offer_118 : decode cX4_offer 118 = .ok (.iload 4, 2) := by decide +kernel
theorem dX4_offer_120 : decode cX4_offer 120 = .ok (.iload_n 1, 1) := by decide +kernel
theorem dX4_offer_121 : decode cX4_offer 121 = .ok (.iastore, 1) := by decide +kernel
theorem dX4_offer_122 : decode cX4_offer 122 = .ok (.aload_n 0, 1) := by decide +kernel
theorem dX4_offer_123 : decode cX4_offer 123 = .ok (.getfield 15, 3) := by decide +kernel
theorem dX4_offer_126 : decode cX4_offer 126 = .ok (.iload 4, 2) := by decide +kernel
theorem dX4_offer_128 : decode cX4_offer 128 = .ok (.dload_n 2, 1) := by decide +kernel
theorem dX4_offer_129 : decode cX4_offer 129 = .ok (.dastore, 1) := by decide +kernel
theorem dX4_offer_130 : decode cX4_offer 130 = .ok (.return_, 1) := by decide +kernel
theorem dX4_isBefore_0 : decode cX4_isBefore 0 = .ok (.dload_n 2, 1) := by decide +kernel
theorem dX4_isBefore_1 : decode cX4_isBefore 1 = .ok (.aload_n 0, 1) := by decide +kernel
theorem dX4_isBefore_2 : decode cX4_isBefore 2 = .ok (.getfield 15, 3) := by decide +kernel
theorem dX4_isBefore_5 : decode cX4_isBefore 5 = .ok (.iload 4, 2) := by decide +kernel
theorem dX4_isBefore_7 : decode cX4_isBefore 7 = .ok (.daload, 1) := by decide +kernel
theorem dX4_isBefore_8 : decode cX4_isBefore 8 = .ok (.dcmp .l, 1) := by decide +kernel
theorem dX4_isBefore_9 : decode cX4_isBefore 9 = .ok (.ifCond .gt 26, 3) := by decide +kernel
theorem dX4_isBefore_12 : decode cX4_isBefore 12 = .ok (.dload_n 2, 1) := by decide +kernel
theorem dX4_isBefore_13 : decode cX4_isBefore 13 = .ok (.aload_n 0, 1) := by decide +kernel
theorem dX4_isBefore_14 : decode cX4_isBefore 14 = .ok (.getfield 15, 3) := by decide +kernel
theorem dX4_isBefore_17 : decode cX4_isBefore 17 = .ok (.iload 4, 2) := by decide +kernel
theorem dX4_isBefore_19 : decode cX4_isBefore 19 = .ok (.daload, 1) := by decide +kernel
theorem dX4_isBefore_20 : decode cX4_isBefore 20 = .ok (.dcmp .l, 1) := by decide +kernel
theorem dX4_isBefore_21 : decode cX4_isBefore 21 = .ok (.ifCond .ne 18, 3) := by decide +kernel
theorem dX4_isBefore_24 : decode cX4_isBefore 24 = .ok (.iload_n 1, 1) := by decide +kernel
theorem dX4_isBefore_25 : decode cX4_isBefore 25 = .ok (.aload_n 0, 1) := by decide +kernel
theorem dX4_isBefore_26 : decode cX4_isBefore 26 = .ok (.getfield 9, 3) := by decide +kernel
theorem dX4_isBefore_29 : decode cX4_isBefore 29 = .ok (.iload 4, 2) := by decide +kernel
theorem dX4_isBefore_31 : decode cX4_isBefore 31 = .ok (.iaload, 1) := by decide +kernel
theorem dX4_isBefore_32 : decode cX4_isBefore 32 = .ok (.if_icmp .ge 7, 3) := by decide +kernel
theorem dX4_isBefore_35 : decode cX4_isBefore 35 = .ok (.iconst 1, 1) := by decide +kernel
theorem dX4_isBefore_36 : decode cX4_isBefore 36 = .ok (.goto 4, 3) := by decide +kernel
theorem dX4_isBefore_39 : decode cX4_isBefore 39 = .ok (.iconst 0, 1) := by decide +kernel
theorem dX4_isBefore_40 : decode cX4_isBefore 40 = .ok (.ireturn, 1) := by decide +kernel
set_option maxRecDepth 20000 in
theorem ggX4_offerAll_X4_offer : GoodIn wsX4_offerAll wsX4_offer := goodIn_r _ [8, 1, 9, 2, 3, 10, 11, 12, 7, 13, 14, 15, 16, 17] (by decide +kernel) (by decide +kernel)
set_option maxRecDepth 20000 in
theorem gX4_offerAll_X4_offer : GoodIn wsX4_offerAll (wsV RX4 36 RX4 yX4_offer wsX4_offer) := goodIn_app (goodIn_of _ (by decide +kernel)) ggX4_offerAll_X4_offer
theorem dX4_offerAll_0 : decode cX4_offerAll 0 = .ok (.iconst 0, 1) := by decide +kernel
theorem dX4_offerAll_1 : decode cX4_offerAll 1 = .ok (.istore_n 2, 1) := by decide +kernel
theorem dX4_offerAll_2 : decode cX4_offerAll 2 = .ok (.iload_n 2, 1) := by decide +kernel
theorem dX4_offerAll_3 : decode cX4_offerAll 3 = .ok (.aload_n 1, 1) := by decide +kernel
theorem dX4_offerAll_4 : decode cX4_offerAll 4 = .ok (.getfield 29, 3) := by decide +kernel
theorem dX4_offerAll_7 : decode cX4_offerAll 7 = .ok (.if_icmp .ge 25, 3) := by decide +kernel
theorem dX4_offerAll_10 : decode cX4_offerAll 10 = .ok (.aload_n 0, 1) := by decide +kernel
theorem dX4_offerAll_11 : decode cX4_offerAll 11 = .ok (.aload_n 1, 1) := by decide +kernel
theorem dX4_offerAll_12 : decode cX4_offerAll 12 = .ok (.getfield 9, 3) := by decide +kernel
theorem dX4_offerAll_15 : decode cX4_offerAll 15 = .ok (.iload_n 2, 1) := by decide +kernel
theorem dX4_offerAll_16 : decode cX4_offerAll 16 = .ok (.iaload, 1) := by decide +kernel
theorem dX4_offerAll_17 : decode cX4_offerAll 17 = .ok (.aload_n 1, 1) := by decide +kernel
theorem dX4_offerAll_18 : decode cX4_offerAll 18 = .ok (.getfield 15, 3) := by decide +kernel
theorem dX4_offerAll_21 : decode cX4_offerAll 21 = .ok (.iload_n 2, 1) := by decide +kernel
theorem dX4_offerAll_22 : decode cX4_offerAll 22 = .ok (.daload, 1) := by decide +kernel
theorem dX4_offerAll_23 : decode cX4_offerAll 23 = .ok (.invokevirtual 36, 3) := by decide +kernel
theorem dX4_offerAll_26 : decode cX4_offerAll 26 = .ok (.iinc 2 1, 3) := by decide +kernel
theorem dX4_offerAll_29 : decode cX4_offerAll 29 = .ok (.goto (-27), 3) := by decide +kernel
theorem dX4_offerAll_32 : decode cX4_offerAll 32 = .ok (.return_, 1) := by decide +kernel
theorem dX5_init_0 : decode cX5_init 0 = .ok (.aload_n 0, 1) := by decide +kernel
theorem dX5_init_1 : decode cX5_init 1 = .ok (.invokespecial 1, 3) := by decide +kernel
theorem dX5_init_4 : decode cX5_init 4 = .ok (.return_, 1) := by decide +kernel
theorem dX6_init_0 : decode cX6_init 0 = .ok (.aload_n 0, 1) := by decide +kernel
theorem dX6_init_1 : decode cX6_init 1 = .ok (.invokespecial 3, 3) := by decide +kernel
theorem dX6_init_4 : decode cX6_init 4 = .ok (.aload_n 0, 1) := by decide +kernel
theorem dX6_init_5 : decode cX6_init 5 = .ok (.iconst 4, 1) := by decide +kernel
theorem dX6_init_6 : decode cX6_init 6 = .ok (.newarray .int, 2) := by decide +kernel
theorem dX6_init_8 : decode cX6_init 8 = .ok (.putfield 9, 3) := by decide +kernel
theorem dX6_init_11 : decode cX6_init 11 = .ok (.aload_n 0, 1) := by decide +kernel
theorem dX6_init_12 : decode cX6_init 12 = .ok (.iconst 4, 1) := by decide +kernel
theorem dX6_init_13 : decode cX6_init 13 = .ok (.newarray .int, 2) := by decide +kernel
theorem dX6_init_15 : decode cX6_init 15 = .ok (.putfield 15, 3) := by decide +kernel
theorem dX6_init_18 : decode cX6_init 18 = .ok (.return_, 1) := by decide +kernel
theorem dX6_size_0 : decode cX6_size 0 = .ok (.aload_n 0, 1) := by decide +kernel
theorem dX6_size_1 : decode cX6_size 1 = .ok (.getfield 18, 3) := by decide +kernel
theorem dX6_size_4 : decode cX6_size 4 = .ok (.ireturn, 1) := by decide +kernel
theorem dX6_isFull_0 : decode cX6_isFull 0 = .ok (.aload_n 0, 1) := by decide +kernel
theorem dX6_isFull_1 : decode cX6_isFull 1 = .ok (.getfield 18, 3) := by decide +kernel
theorem dX6_isFull_4 : decode cX6_isFull 4 = .ok (.iconst 4, 1) := by decide +kernel
theorem dX6_isFull_5 : decode cX6_isFull 5 = .ok (.if_icmp .lt 7, 3) := by decide +kernel
theorem dX6_isFull_8 : decode cX6_isFull 8 = .ok (.iconst 1, 1) := by decide +kernel
theorem dX6_isFull_9 : decode cX6_isFull 9 = .ok (.goto 4, 3) := by decide +kernel
theorem dX6_isFull_12 : decode cX6_isFull 12 = .ok (.iconst 0, 1) := by decide +kernel
theorem dX6_isFull_13 : decode cX6_isFull 13 = .ok (.ireturn, 1) := by decide +kernel
theorem dX6_empty_0 : decode cX6_empty 0 = .ok (.aload_n 0, 1) := by decide +kernel
theorem dX6_empty_1 : decode cX6_empty 1 = .ok (.iconst 0, 1) := by decide +kernel
theorem dX6_empty_2 : decode cX6_empty 2 = .ok (.putfield 18, 3) := by decide +kernel
theorem dX6_empty_5 : decode cX6_empty 5 = .ok (.return_, 1) := by decide +kernel
theorem dX6_holds_0 : decode cX6_holds 0 = .ok (.iconst 0, 1) := by decide +kernel
theorem dX6_holds_1 : decode cX6_holds 1 = .ok (.istore_n 2, 1) := by decide +kernel
theorem dX6_holds_2 : decode cX6_holds 2 = .ok (.iload_n 2, 1) := by decide +kernel
theorem dX6_holds_3 : decode cX6_holds 3 = .ok (.aload_n 0, 1) := by decide +kernel
theorem dX6_holds_4 : decode cX6_holds 4 = .ok (.getfield 18, 3) := by decide +kernel
theorem dX6_holds_7 : decode cX6_holds 7 = .ok (.if_icmp .ge 21, 3) := by decide +kernel
theorem dX6_holds_10 : decode cX6_holds 10 = .ok (.aload_n 0, 1) := by decide +kernel
theorem dX6_holds_11 : decode cX6_holds 11 = .ok (.getfield 9, 3) := by decide +kernel
theorem dX6_holds_14 : decode cX6_holds 14 = .ok (.iload_n 2, 1) := by decide +kernel
theorem dX6_holds_15 : decode cX6_holds 15 = .ok (.iaload, 1) := by decide +kernel
theorem dX6_holds_16 : decode cX6_holds 16 = .ok (.iload_n 1, 1) := by decide +kernel
theorem dX6_holds_17 : decode cX6_holds 17 = .ok (.if_icmp .ne 5, 3) := by decide +kernel
theorem dX6_holds_20 : decode cX6_holds 20 = .ok (.iconst 1, 1) := by decide +kernel
theorem dX6_holds_21 : decode cX6_holds 21 = .ok (.ireturn, 1) := by decide +kernel
theorem dX6_holds_22 : decode cX6_holds 22 = .ok (.iinc 2 1, 3) := by decide +kernel
theorem dX6_holds_25 : decode cX6_holds 25 = .ok (.goto (-23), 3) := by decide +kernel
theorem dX6_holds_28 : decode cX6_holds 28 = .ok (.iconst 0, 1) := by decide +kernel
theorem dX6_holds_29 : decode cX6_holds 29 = .ok (.ireturn, 1) := by decide +kernel
theorem dX6_add_0 : decode cX6_add 0 = .ok (.aload_n 0, 1) := by decide +kernel
theorem dX6_add_1 : decode cX6_add 1 = .ok (.getfield 18, 3) := by decide +kernel
theorem dX6_add_4 : decode cX6_add 4 = .ok (.iconst 4, 1) := by decide +kernel
theorem dX6_add_5 : decode cX6_add 5 = .ok (.if_icmp .ge 33, 3) := by decide +kernel
theorem dX6_add_8 : decode cX6_add 8 = .ok (.aload_n 0, 1) := by decide +kernel
theorem dX6_add_9 : decode cX6_add 9 = .ok (.getfield 9, 3) := by decide +kernel
theorem dX6_add_12 : decode cX6_add 12 = .ok (.aload_n 0, 1) := by decide +kernel
theorem dX6_add_13 : decode cX6_add 13 = .ok (.getfield 18, 3) := by decide +kernel
theorem dX6_add_16 : decode cX6_add 16 = .ok (.iload_n 1, 1) := by decide +kernel
theorem dX6_add_17 : decode cX6_add 17 = .ok (.iastore, 1) := by decide +kernel
theorem dX6_add_18 : decode cX6_add 18 = .ok (.aload_n 0, 1) := by decide +kernel
theorem dX6_add_19 : decode cX6_add 19 = .ok (.getfield 15, 3) := by decide +kernel
theorem dX6_add_22 : decode cX6_add 22 = .ok (.aload_n 0, 1) := by decide +kernel
theorem dX6_add_23 : decode cX6_add 23 = .ok (.getfield 18, 3) := by decide +kernel
theorem dX6_add_26 : decode cX6_add 26 = .ok (.iload_n 2, 1) := by decide +kernel
theorem dX6_add_27 : decode cX6_add 27 = .ok (.iastore, 1) := by decide +kernel
theorem dX6_add_28 : decode cX6_add 28 = .ok (.aload_n 0, 1) := by decide +kernel
theorem dX6_add_29 : decode cX6_add 29 = .ok (.dup, 1) := by decide +kernel
theorem dX6_add_30 : decode cX6_add 30 = .ok (.getfield 18, 3) := by decide +kernel
theorem dX6_add_33 : decode cX6_add 33 = .ok (.iconst 1, 1) := by decide +kernel
theorem dX6_add_34 : decode cX6_add 34 = .ok (.iadd, 1) := by decide +kernel
theorem dX6_add_35 : decode cX6_add 35 = .ok (.putfield 18, 3) := by decide +kernel
theorem dX6_add_38 : decode cX6_add 38 = .ok (.aload_n 0, 1) := by decide +kernel
theorem dX6_add_39 : decode cX6_add 39 = .ok (.getfield 18, 3) := by decide +kernel
theorem dX6_add_42 : decode cX6_add 42 = .ok (.ireturn, 1) := by decide +kernel
theorem dX6_termAt_0 : decode cX6_termAt 0 = .ok (.aload_n 0, 1) := by decide +kernel
theorem dX6_termAt_1 : decode cX6_termAt 1 = .ok (.getfield 9, 3) := by decide +kernel
theorem dX6_termAt_4 : decode cX6_termAt 4 = .ok (.iload_n 1, 1) := by decide +kernel
theorem dX6_termAt_5 : decode cX6_termAt 5 = .ok (.iaload, 1) := by decide +kernel
theorem dX6_termAt_6 : decode cX6_termAt 6 = .ok (.ireturn, 1) := by decide +kernel
theorem dX6_weightAt_0 : decode cX6_weightAt 0 = .ok (.aload_n 0, 1) := by decide +kernel
theorem dX6_weightAt_1 : decode cX6_weightAt 1 = .ok (.getfield 15, 3) := by decide +kernel
theorem dX6_weightAt_4 : decode cX6_weightAt 4 = .ok (.iload_n 1, 1) := by decide +kernel
theorem dX6_weightAt_5 : decode cX6_weightAt 5 = .ok (.iaload, 1) := by decide +kernel
theorem dX6_weightAt_6 : decode cX6_weightAt 6 = .ok (.ireturn, 1) := by decide +kernel
theorem dX7_init_0 : decode cX7_init 0 = .ok (.aload_n 0, 1) := by decide +kernel
theorem dX7_init_1 : decode cX7_init 1 = .ok (.invokespecial 3, 3) := by decide +kernel
theorem dX7_init_4 : decode cX7_init 4 = .ok (.aload_n 0, 1) := by decide +kernel
theorem dX7_init_5 : decode cX7_init 5 = .ok (.iload_n 1, 1) := by decide +kernel
theorem dX7_init_6 : decode cX7_init 6 = .ok (.iconst 0, 1) := by decide +kernel
theorem dX7_init_7 : decode cX7_init 7 = .ok (.invokestatic 9, 3) := by decide +kernel
theorem dX7_init_10 : decode cX7_init 10 = .ok (.putfield 15, 3) := by decide +kernel
theorem dX7_init_13 : decode cX7_init 13 = .ok (.aload_n 0, 1) := by decide +kernel
theorem dX7_init_14 : decode cX7_init 14 = .ok (.aload_n 0, 1) := by decide +kernel
theorem dX7_init_15 : decode cX7_init 15 = .ok (.getfield 15, 3) := by decide +kernel
theorem dX7_init_18 : decode cX7_init 18 = .ok (.iconst 4, 1) := by decide +kernel
theorem dX7_init_19 : decode cX7_init 19 = .ok (.imul, 1) := by decide +kernel
theorem dX7_init_20 : decode cX7_init 20 = .ok (.newarray .float, 2) := by decide +kernel
theorem dX7_init_22 : decode cX7_init 22 = .ok (.putfield 21, 3) := by decide +kernel
theorem dX7_init_25 : decode cX7_init 25 = .ok (.return_, 1) := by decide +kernel
theorem dX7_size_0 : decode cX7_size 0 = .ok (.aload_n 0, 1) := by decide +kernel
theorem dX7_size_1 : decode cX7_size 1 = .ok (.getfield 25, 3) := by decide +kernel
theorem dX7_size_4 : decode cX7_size 4 = .ok (.ireturn, 1) := by decide +kernel
theorem dX7_isFull_0 : decode cX7_isFull 0 = .ok (.aload_n 0, 1) := by decide +kernel
theorem dX7_isFull_1 : decode cX7_isFull 1 = .ok (.getfield 25, 3) := by decide +kernel
theorem dX7_isFull_4 : decode cX7_isFull 4 = .ok (.aload_n 0, 1) := by decide +kernel
theorem dX7_isFull_5 : decode cX7_isFull 5 = .ok (.getfield 15, 3) := by decide +kernel
theorem dX7_isFull_8 : decode cX7_isFull 8 = .ok (.if_icmp .lt 7, 3) := by decide +kernel
theorem dX7_isFull_11 : decode cX7_isFull 11 = .ok (.iconst 1, 1) := by decide +kernel
theorem dX7_isFull_12 : decode cX7_isFull 12 = .ok (.goto 4, 3) := by decide +kernel
theorem dX7_isFull_15 : decode cX7_isFull 15 = .ok (.iconst 0, 1) := by decide +kernel
theorem dX7_isFull_16 : decode cX7_isFull 16 = .ok (.ireturn, 1) := by decide +kernel
theorem dX7_empty_0 : decode cX7_empty 0 = .ok (.aload_n 0, 1) := by decide +kernel
theorem dX7_empty_1 : decode cX7_empty 1 = .ok (.iconst 0, 1) := by decide +kernel
theorem dX7_empty_2 : decode cX7_empty 2 = .ok (.putfield 25, 3) := by decide +kernel
theorem dX7_empty_5 : decode cX7_empty 5 = .ok (.return_, 1) := by decide +kernel
theorem dX7_add_0 : decode cX7_add 0 = .ok (.aload_n 0, 1) := by decide +kernel
theorem dX7_add_1 : decode cX7_add 1 = .ok (.getfield 25, 3) := by decide +kernel
theorem dX7_add_4 : decode cX7_add 4 = .ok (.aload_n 0, 1) := by decide +kernel
theorem dX7_add_5 : decode cX7_add 5 = .ok (.getfield 15, 3) := by decide +kernel
theorem dX7_add_8 : decode cX7_add 8 = .ok (.if_icmp .ge 60, 3) := by decide +kernel
theorem dX7_add_11 : decode cX7_add 11 = .ok (.aload_n 0, 1) := by decide +kernel
theorem dX7_add_12 : decode cX7_add 12 = .ok (.getfield 25, 3) := by decide +kernel
theorem dX7_add_15 : decode cX7_add 15 = .ok (.iconst 4, 1) := by decide +kernel
theorem dX7_add_16 : decode cX7_add 16 = .ok (.imul, 1) := by decide +kernel
theorem dX7_add_17 : decode cX7_add 17 = .ok (.istore 5, 2) := by decide +kernel
theorem dX7_add_19 : decode cX7_add 19 = .ok (.aload_n 0, 1) := by decide +kernel
theorem dX7_add_20 : decode cX7_add 20 = .ok (.getfield 21, 3) := by decide +kernel
theorem dX7_add_23 : decode cX7_add 23 = .ok (.iload 5, 2) := by decide +kernel
theorem dX7_add_25 : decode cX7_add 25 = .ok (.fload_n 1, 1) := by decide +kernel
theorem dX7_add_26 : decode cX7_add 26 = .ok (.fastore, 1) := by decide +kernel
theorem dX7_add_27 : decode cX7_add 27 = .ok (.aload_n 0, 1) := by decide +kernel
theorem dX7_add_28 : decode cX7_add 28 = .ok (.getfield 21, 3) := by decide +kernel
theorem dX7_add_31 : decode cX7_add 31 = .ok (.iload 5, 2) := by decide +kernel
theorem dX7_add_33 : decode cX7_add 33 = .ok (.iconst 1, 1) := by decide +kernel
theorem dX7_add_34 : decode cX7_add 34 = .ok (.iadd, 1) := by decide +kernel
theorem dX7_add_35 : decode cX7_add 35 = .ok (.fload_n 2, 1) := by decide +kernel
theorem dX7_add_36 : decode cX7_add 36 = .ok (.fastore, 1) := by decide +kernel
theorem dX7_add_37 : decode cX7_add 37 = .ok (.aload_n 0, 1) := by decide +kernel
theorem dX7_add_38 : decode cX7_add 38 = .ok (.getfield 21, 3) := by decide +kernel
theorem dX7_add_41 : decode cX7_add 41 = .ok (.iload 5, 2) := by decide +kernel
theorem dX7_add_43 : decode cX7_add 43 = .ok (.iconst 2, 1) := by decide +kernel
theorem dX7_add_44 : decode cX7_add 44 = .ok (.iadd, 1) := by decide +kernel
theorem dX7_add_45 : decode cX7_add 45 = .ok (.fload_n 3, 1) := by decide +kernel
theorem dX7_add_46 : decode cX7_add 46 = .ok (.fastore, 1) := by decide +kernel
theorem dX7_add_47 : decode cX7_add 47 = .ok (.aload_n 0, 1) := by decide +kernel
theorem dX7_add_48 : decode cX7_add 48 = .ok (.getfield 21, 3) := by decide +kernel
theorem dX7_add_51 : decode cX7_add 51 = .ok (.iload 5, 2) := by decide +kernel
theorem dX7_add_53 : decode cX7_add 53 = .ok (.iconst 3, 1) := by decide +kernel
theorem dX7_add_54 : decode cX7_add 54 = .ok (.iadd, 1) := by decide +kernel
theorem dX7_add_55 : decode cX7_add 55 = .ok (.fload 4, 2) := by decide +kernel
theorem dX7_add_57 : decode cX7_add 57 = .ok (.fastore, 1) := by decide +kernel
theorem dX7_add_58 : decode cX7_add 58 = .ok (.aload_n 0, 1) := by decide +kernel
theorem dX7_add_59 : decode cX7_add 59 = .ok (.dup, 1) := by decide +kernel
theorem dX7_add_60 : decode cX7_add 60 = .ok (.getfield 25, 3) := by decide +kernel
theorem dX7_add_63 : decode cX7_add 63 = .ok (.iconst 1, 1) := by decide +kernel
theorem dX7_add_64 : decode cX7_add 64 = .ok (.iadd, 1) := by decide +kernel
theorem dX7_add_65 : decode cX7_add 65 = .ok (.putfield 25, 3) := by decide +kernel
theorem dX7_add_68 : decode cX7_add 68 = .ok (.aload_n 0, 1) := by decide +kernel
theorem dX7_add_69 : decode cX7_add 69 = .ok (.getfield 25, 3) := by decide +kernel
theorem dX7_add_72 : decode cX7_add 72 = .ok (.ireturn, 1) := by decide +kernel
theorem dX7_product_0 : decode cX7_product 0 = .ok (.fconst 0, 1) := by decide +kernel
theorem dX7_product_1 : decode cX7_product 1 = .ok (.fstore 4, 2) := by decide +kernel
theorem dX7_product_3 : decode cX7_product 3 = .ok (.iconst 0, 1) := by decide +kernel
theorem dX7_product_4 : decode cX7_product 4 = .ok (.istore 5, 2) := by decide +kernel
theorem dX7_product_6 : decode cX7_product 6 = .ok (.iload 5, 2) := by decide +kernel
theorem dX7_product_8 : decode cX7_product 8 = .ok (.iconst 4, 1) := by decide +kernel
theorem dX7_product_9 : decode cX7_product 9 = .ok (.if_icmp .ge 37, 3) := by decide +kernel
theorem dX7_product_12 : decode cX7_product 12 = .ok (.fload 4, 2) := by decide +kernel
theorem dX7_product_14 : decode cX7_product 14 = .ok (.aload_n 0, 1) := by decide +kernel
theorem dX7_product_15 : decode cX7_product 15 = .ok (.getfield 21, 3) := by decide +kernel
theorem dX7_product_18 : decode cX7_product 18 = .ok (.iload_n 1, 1) := by decide +kernel
theorem dX7_product_19 : decode cX7_product 19 = .ok (.iconst 4, 1) := by decide +kernel
theorem dX7_product_20 : decode cX7_product 20 = .ok (.imul, 1) := by decide +kernel
theorem dX7_product_21 : decode cX7_product 21 = .ok (.iload 5, 2) := by decide +kernel
theorem dX7_product_23 : decode cX7_product 23 = .ok (.iadd, 1) := by decide +kernel
theorem dX7_product_24 : decode cX7_product 24 = .ok (.faload, 1) := by decide +kernel
theorem dX7_product_25 : decode cX7_product 25 = .ok (.aload_n 2, 1) := by decide +kernel
theorem dX7_product_26 : decode cX7_product 26 = .ok (.getfield 21, 3) := by decide +kernel
theorem dX7_product_29 : decode cX7_product 29 = .ok (.iload_n 3, 1) := by decide +kernel
theorem dX7_product_30 : decode cX7_product 30 = .ok (.iconst 4, 1) := by decide +kernel
theorem dX7_product_31 : decode cX7_product 31 = .ok (.imul, 1) := by decide +kernel
theorem dX7_product_32 : decode cX7_product 32 = .ok (.iload 5, 2) := by decide +kernel
theorem dX7_product_34 : decode cX7_product 34 = .ok (.iadd, 1) := by decide +kernel
theorem dX7_product_35 : decode cX7_product 35 = .ok (.faload, 1) := by decide +kernel
theorem dX7_product_36 : decode cX7_product 36 = .ok (.fmul, 1) := by decide +kernel
theorem dX7_product_37 : decode cX7_product 37 = .ok (.fadd, 1) := by decide +kernel
theorem dX7_product_38 : decode cX7_product 38 = .ok (.fstore 4, 2) := by decide +kernel
theorem dX7_product_40 : decode cX7_product 40 = .ok (.iinc 5 1, 3) := by decide +kernel
theorem dX7_product_43 : decode cX7_product 43 = .ok (.goto (-37), 3) := by decide +kernel
theorem dX7_product_46 : decode cX7_product 46 = .ok (.fload 4, 2) := by decide +kernel
theorem dX7_product_48 : decode cX7_product 48 = .ok (.freturn, 1) := by decide +kernel
set_option maxRecDepth 20000 in
theorem ggX7_nearestIn_X7_product : GoodIn wsX7_nearestIn wsX7_product := goodIn_r _ [6, 7, 8, 9, 10] (by decide +kernel) (by decide +kernel)
set_option maxRecDepth 20000 in
theorem gX7_nearestIn_X7_product : GoodIn wsX7_nearestIn (wsV RX7 28 RX7 yX7_product wsX7_product) := goodIn_app (goodIn_of _ (by decide +kernel)) ggX7_nearestIn_X7_product
theorem dX7_nearestIn_0 : decode cX7_nearestIn 0 = .ok (.iconst (-1), 1) := by decide +kernel
theorem dX7_nearestIn_1 : decode cX7_nearestIn 1 = .ok (.istore_n 3, 1) := by decide +kernel
theorem dX7_nearestIn_2 : decode cX7_nearestIn 2 = .ok (.fconst 0, 1) := by decide +kernel
theorem dX7_nearestIn_3 : decode cX7_nearestIn 3 = .ok (.fstore 4, 2) := by decide +kernel
theorem dX7_nearestIn_5 : decode cX7_nearestIn 5 = .ok (.iconst 0, 1) := by decide +kernel
theorem dX7_nearestIn_6 : decode cX7_nearestIn 6 = .ok (.istore 5, 2) := by decide +kernel
theorem dX7_nearestIn_8 : decode cX7_nearestIn 8 = .ok (.iload 5, 2) := by decide +kernel
theorem dX7_nearestIn_10 : decode cX7_nearestIn 10 = .ok (.aload_n 1, 1) := by decide +kernel
theorem dX7_nearestIn_11 : decode cX7_nearestIn 11 = .ok (.getfield 25, 3) := by decide +kernel
theorem dX7_nearestIn_14 : decode cX7_nearestIn 14 = .ok (.if_icmp .ge 38, 3) := by decide +kernel
theorem dX7_nearestIn_17 : decode cX7_nearestIn 17 = .ok (.aload_n 0, 1) := by decide +kernel
theorem dX7_nearestIn_18 : decode cX7_nearestIn 18 = .ok (.iload_n 2, 1) := by decide +kernel
theorem dX7_nearestIn_19 : decode cX7_nearestIn 19 = .ok (.aload_n 1, 1) := by decide +kernel
theorem dX7_nearestIn_20 : decode cX7_nearestIn 20 = .ok (.iload 5, 2) := by decide +kernel
theorem dX7_nearestIn_22 : decode cX7_nearestIn 22 = .ok (.invokevirtual 28, 3) := by decide +kernel
theorem dX7_nearestIn_25 : decode cX7_nearestIn 25 = .ok (.fstore 6, 2) := by decide +kernel
theorem dX7_nearestIn_27 : decode cX7_nearestIn 27 = .ok (.iload_n 3, 1) := by decide +kernel
theorem dX7_nearestIn_28 : decode cX7_nearestIn 28 = .ok (.ifCond .lt 11, 3) := by decide +kernel
theorem dX7_nearestIn_31 : decode cX7_nearestIn 31 = .ok (.fload 6, 2) := by decide +kernel
theorem dX7_nearestIn_33 : decode cX7_nearestIn 33 = .ok (.fload 4, 2) := by decide +kernel
theorem dX7_nearestIn_35 : decode cX7_nearestIn 35 = .ok (.fcmp .l, 1) := by decide +kernel
theorem dX7_nearestIn_36 : decode cX7_nearestIn 36 = .ok (.ifCond .le 10, 3) := by decide +kernel
theorem dX7_nearestIn_39 : decode cX7_nearestIn 39 = .ok (.iload 5, 2) := by decide +kernel
theorem dX7_nearestIn_41 : decode cX7_nearestIn 41 = .ok (.istore_n 3, 1) := by decide +kernel
theorem dX7_nearestIn_42 : decode cX7_nearestIn 42 = .ok (.fload 6, 2) := by decide +kernel
theorem dX7_nearestIn_44 : decode cX7_nearestIn 44 = .ok (.fstore 4, 2) := by decide +kernel
theorem dX7_nearestIn_46 : decode cX7_nearestIn 46 = .ok (.iinc 5 1, 3) := by decide +kernel
theorem dX7_nearestIn_49 : decode cX7_nearestIn 49 = .ok (.goto (-41), 3) := by decide +kernel
theorem dX7_nearestIn_52 : decode cX7_nearestIn 52 = .ok (.iload_n 3, 1) := by decide +kernel
theorem dX7_nearestIn_53 : decode cX7_nearestIn 53 = .ok (.ireturn, 1) := by decide +kernel
set_option maxRecDepth 20000 in
theorem ggX8_init_X5_init : GoodIn wsX8_init wsX5_init := goodIn_r _ [7, 8, 9, 10] (by decide +kernel) (by decide +kernel)
set_option maxRecDepth 20000 in
theorem gX8_init_X5_init_n3 : GoodIn wsX8_init (wsX5_init) := ggX8_init_X5_init
theorem dX8_init_0 : decode cX8_init 0 = .ok (.aload_n 0, 1) := by decide +kernel
theorem dX8_init_1 : decode cX8_init 1 = .ok (.invokespecial 3, 3) := by decide +kernel
theorem dX8_init_4 : decode cX8_init 4 = .ok (.aload_n 0, 1) := by decide +kernel
theorem dX8_init_5 : decode cX8_init 5 = .ok (.iconst 4, 1) := by decide +kernel
theorem dX8_init_6 : decode cX8_init 6 = .ok (.newarray .boolean, 2) := by decide +kernel
theorem dX8_init_8 : decode cX8_init 8 = .ok (.putfield 9, 3) := by decide +kernel
theorem dX8_init_11 : decode cX8_init 11 = .ok (.aload_n 0, 1) := by decide +kernel
theorem dX8_init_12 : decode cX8_init 12 = .ok (.aload_n 1, 1) := by decide +kernel
theorem dX8_init_13 : decode cX8_init 13 = .ok (.putfield 15, 3) := by decide +kernel
theorem dX8_init_16 : decode cX8_init 16 = .ok (.aload_n 0, 1) := by decide +kernel
theorem dX8_init_17 : decode cX8_init 17 = .ok (.aload_n 2, 1) := by decide +kernel
theorem dX8_init_18 : decode cX8_init 18 = .ok (.putfield 19, 3) := by decide +kernel
theorem dX8_init_21 : decode cX8_init 21 = .ok (.return_, 1) := by decide +kernel
set_option maxRecDepth 20000 in
theorem ggX8_prepare_X7_size : GoodIn wsX8_prepare wsX7_size := goodIn_r _ [9, 10, 30, 31, 32] (by decide +kernel) (by decide +kernel)
set_option maxRecDepth 20000 in
theorem gX8_prepare_X7_size : GoodIn wsX8_prepare (wsV RX8 27 RX7 yX7_size wsX7_size) := goodIn_app (goodIn_of _ (by decide +kernel)) ggX8_prepare_X7_size
set_option maxRecDepth 20000 in
theorem ggX8_prepare_X0_centroidRow : GoodIn wsX8_prepare wsX0_centroidRow := goodIn_r _ [15, 16, 33, 34, 35, 36, 37, 38] (by decide +kernel) (by decide +kernel)
set_option maxRecDepth 20000 in
theorem gX8_prepare_X0_centroidRow : GoodIn wsX8_prepare (wsV RX8 33 RX0 yX0_centroidRow wsX0_centroidRow) := goodIn_app (goodIn_of _ (by decide +kernel)) ggX8_prepare_X0_centroidRow
set_option maxRecDepth 20000 in
theorem ggX8_prepare_X7_nearestIn : GoodIn wsX8_prepare wsX7_nearestIn := goodIn_r _ [20, 10, 21, 22, 23, 8, 24, 25, 30, 31, 32] (by decide +kernel) (by decide +kernel)
set_option maxRecDepth 20000 in
theorem gX8_prepare_X7_nearestIn : GoodIn wsX8_prepare (wsV RX8 39 RX7 yX7_nearestIn wsX7_nearestIn) := goodIn_app (goodIn_of _ (by decide +kernel)) ggX8_prepare_X7_nearestIn
theorem dX8_prepare_0 : decode cX8_prepare 0 = .ok (.aload_n 0, 1) := by decide +kernel
theorem dX8_prepare_1 : decode cX8_prepare 1 = .ok (.iload_n 1, 1) := by decide +kernel
theorem dX8_prepare_2 : decode cX8_prepare 2 = .ok (.putfield 23, 3) := by decide +kernel
theorem dX8_prepare_5 : decode cX8_prepare 5 = .ok (.iconst 0, 1) := by decide +kernel
theorem dX8_prepare_6 : decode cX8_prepare 6 = .ok (.istore_n 2, 1) := by decide +kernel
theorem dX8_prepare_7 : decode cX8_prepare 7 = .ok (.iload_n 2, 1) := by decide +kernel
theorem dX8_prepare_8 : decode cX8_prepare 8 = .ok (.iconst 4, 1) := by decide +kernel
theorem dX8_prepare_9 : decode cX8_prepare 9 = .ok (.if_icmp .ge 16, 3) := by decide +kernel
theorem dX8_prepare_12 : decode cX8_prepare 12 = .ok (.aload_n 0, 1) := by decide +kernel
theorem dX8_prepare_13 : decode cX8_prepare 13 = .ok (.getfield 9, 3) := by decide +kernel
theorem dX8_prepare_16 : decode cX8_prepare 16 = .ok (.iload_n 2, 1) := by decide +kernel
theorem dX8_prepare_17 : decode cX8_prepare 17 = .ok (.iconst 0, 1) := by decide +kernel
theorem dX8_prepare_18 : decode cX8_prepare 18 = .ok (.bastore, 1) := by decide +kernel
theorem dX8_prepare_19 : decode cX8_prepare 19 = .ok (.iinc 2 1, 3) := by decide +kernel
theorem dX8_prepare_22 : decode cX8_prepare 22 = .ok (.goto (-15), 3) := by decide +kernel
theorem dX8_prepare_25 : decode cX8_prepare 25 = .ok (.iconst 0, 1) := by decide +kernel
theorem dX8_prepare_26 : decode cX8_prepare 26 = .ok (.istore_n 2, 1) := by decide +kernel
theorem dX8_prepare_27 : decode cX8_prepare 27 = .ok (.iload_n 2, 1) := by decide +kernel
theorem dX8_prepare_28 : decode cX8_prepare 28 = .ok (.aload_n 0, 1) := by decide +kernel
theorem dX8_prepare_29 : decode cX8_prepare 29 = .ok (.getfield 19, 3) := by decide +kernel
theorem dX8_prepare_32 : decode cX8_prepare 32 = .ok (.invokevirtual 27, 3) := by decide +kernel
theorem dX8_prepare_35 : decode cX8_prepare 35 = .ok (.if_icmp .ge 36, 3) := by decide +kernel
theorem dX8_prepare_38 : decode cX8_prepare 38 = .ok (.aload_n 0, 1) := by decide +kernel
theorem dX8_prepare_39 : decode cX8_prepare 39 = .ok (.getfield 19, 3) := by decide +kernel
theorem dX8_prepare_42 : decode cX8_prepare 42 = .ok (.aload_n 0, 1) := by decide +kernel
theorem dX8_prepare_43 : decode cX8_prepare 43 = .ok (.getfield 15, 3) := by decide +kernel
theorem dX8_prepare_46 : decode cX8_prepare 46 = .ok (.invokevirtual 33, 3) := by decide +kernel
theorem dX8_prepare_49 : decode cX8_prepare 49 = .ok (.iload_n 2, 1) := by decide +kernel
theorem dX8_prepare_50 : decode cX8_prepare 50 = .ok (.invokevirtual 39, 3) := by decide +kernel
theorem dX8_prepare_53 : decode cX8_prepare 53 = .ok (.istore_n 3, 1) := by decide +kernel
theorem dX8_prepare_54 : decode cX8_prepare 54 = .ok (.iload_n 3, 1) := by decide +kernel
theorem dX8_prepare_55 : decode cX8_prepare 55 = .ok (.ifCond .lt 10, 3) := by decide +kernel
theorem dX8_prepare_58 : decode cX8_prepare 58 = .ok (.aload_n 0, 1) := by decide +kernel
theorem dX8_prepare_59 : decode cX8_prepare 59 = .ok (.getfield 9, 3) := by decide +kernel
theorem dX8_prepare_62 : decode cX8_prepare 62 = .ok (.iload_n 3, 1) := by decide +kernel
theorem dX8_prepare_63 : decode cX8_prepare 63 = .ok (.iconst 1, 1) := by decide +kernel
theorem dX8_prepare_64 : decode cX8_prepare 64 = .ok (.bastore, 1) := by decide +kernel
theorem dX8_prepare_65 : decode cX8_prepare 65 = .ok (.iinc 2 1, 3) := by decide +kernel
theorem dX8_prepare_68 : decode cX8_prepare 68 = .ok (.goto (-41), 3) := by decide +kernel
theorem dX8_prepare_71 : decode cX8_prepare 71 = .ok (.return_, 1) := by decide +kernel
set_option maxRecDepth 20000 in
theorem ggX8_matches_X0_tokensOf : GoodIn wsX8_matches wsX0_tokensOf := goodIn_r _ [8, 9, 40, 41, 42, 43, 44, 45] (by decide +kernel) (by decide +kernel)
set_option maxRecDepth 20000 in
theorem gX8_matches_X0_tokensOf : GoodIn wsX8_matches (wsV RX8 43 RX0 yX0_tokensOf wsX0_tokensOf) := goodIn_app (goodIn_of _ (by decide +kernel)) ggX8_matches_X0_tokensOf
set_option maxRecDepth 20000 in
theorem ggX8_matches_X8_isCandidate : GoodIn wsX8_matches wsX8_isCandidate := goodIn_r _ [14, 1, 15, 16, 17, 18, 19, 20, 21, 22, 23, 24, 7, 25, 26, 27, 28, 29, 30, 31, 32, 33, 34, 35, 36, 37, 38, 39, 46, 47, 48, 40, 41, 42, 43, 44, 45] (by decide +kernel) (by decide +kernel)
set_option maxRecDepth 20000 in
theorem gX8_matches_X8_isCandidate : GoodIn wsX8_matches (wsV RX8 47 RX8 yX8_isCandidate wsX8_isCandidate) := goodIn_app (goodIn_of _ (by decide +kernel)) ggX8_matches_X8_isCandidate
set_option maxRecDepth 20000 in
theorem ggX8_matches_X7_size : GoodIn wsX8_matches wsX7_size := goodIn_r _ [20, 21, 46, 47, 48] (by decide +kernel) (by decide +kernel)
set_option maxRecDepth 20000 in
theorem gX8_matches_X7_size : GoodIn wsX8_matches (wsV RX8 27 RX7 yX7_size wsX7_size) := goodIn_app (goodIn_of _ (by decide +kernel)) ggX8_matches_X7_size
theorem dX8_matches_0 : decode cX8_matches 0 = .ok (.aload_n 0, 1) := by decide +kernel
theorem dX8_matches_1 : decode cX8_matches 1 = .ok (.getfield 15, 3) := by decide +kernel
theorem dX8_matches_4 : decode cX8_matches 4 = .ok (.iload_n 1, 1) := by decide +kernel
theorem dX8_matches_5 : decode cX8_matches 5 = .ok (.invokevirtual 43, 3) := by decide +kernel
theorem dX8_matches_8 : decode cX8_matches 8 = .ok (.astore_n 2, 1) := by decide +kernel
theorem dX8_matches_9 : decode cX8_matches 9 = .ok (.aload_n 0, 1) := by decide +kernel
theorem dX8_matches_10 : decode cX8_matches 10 = .ok (.getfield 23, 3) := by decide +kernel
theorem dX8_matches_13 : decode cX8_matches 13 = .ok (.ifCond .eq 9, 3) := by decide +kernel
theorem dX8_matches_16 : decode cX8_matches 16 = .ok (.aload_n 0, 1) := by decide +kernel
theorem dX8_matches_17 : decode cX8_matches 17 = .ok (.aload_n 2, 1) := by decide +kernel
theorem dX8_matches_18 : decode cX8_matches 18 = .ok (.invokevirtual 47, 3) := by decide +kernel
theorem dX8_matches_21 : decode cX8_matches 21 = .ok (.ireturn, 1) := by decide +kernel
theorem dX8_matches_22 : decode cX8_matches 22 = .ok (.aload_n 2, 1) := by decide +kernel
theorem dX8_matches_23 : decode cX8_matches 23 = .ok (.invokevirtual 27, 3) := by decide +kernel
theorem dX8_matches_26 : decode cX8_matches 26 = .ok (.ifCond .le 17, 3) := by decide +kernel
theorem dX8_matches_29 : decode cX8_matches 29 = .ok (.aload_n 0, 1) := by decide +kernel
theorem dX8_matches_30 : decode cX8_matches 30 = .ok (.getfield 19, 3) := by decide +kernel
theorem dX8_matches_33 : decode cX8_matches 33 = .ok (.invokevirtual 27, 3) := by decide +kernel
theorem dX8_matches_36 : decode cX8_matches 36 = .ok (.ifCond .le 7, 3) := by decide +kernel
theorem dX8_matches_39 : decode cX8_matches 39 = .ok (.iconst 1, 1) := by decide +kernel
theorem dX8_matches_40 : decode cX8_matches 40 = .ok (.goto 4, 3) := by decide +kernel
theorem dX8_matches_43 : decode cX8_matches 43 = .ok (.iconst 0, 1) := by decide +kernel
theorem dX8_matches_44 : decode cX8_matches 44 = .ok (.ireturn, 1) := by decide +kernel
set_option maxRecDepth 20000 in
theorem ggX8_isCandidate_X7_size : GoodIn wsX8_isCandidate wsX7_size := goodIn_r _ [7, 8, 28, 29, 30] (by decide +kernel) (by decide +kernel)
set_option maxRecDepth 20000 in
theorem gX8_isCandidate_X7_size : GoodIn wsX8_isCandidate (wsV RX8 27 RX7 yX7_size wsX7_size) := goodIn_app (goodIn_of _ (by decide +kernel)) ggX8_isCandidate_X7_size
set_option maxRecDepth 20000 in
theorem ggX8_isCandidate_X0_centroidRow : GoodIn wsX8_isCandidate wsX0_centroidRow := goodIn_r _ [13, 14, 31, 32, 33, 34, 35, 36] (by decide +kernel) (by decide +kernel)
set_option maxRecDepth 20000 in
theorem gX8_isCandidate_X0_centroidRow : GoodIn wsX8_isCandidate (wsV RX8 33 RX0 yX0_centroidRow wsX0_centroidRow) := goodIn_app (goodIn_of _ (by decide +kernel)) ggX8_isCandidate_X0_centroidRow
set_option maxRecDepth 20000 in
theorem ggX8_isCandidate_X7_nearestIn : GoodIn wsX8_isCandidate wsX7_nearestIn := goodIn_r _ [18, 8, 19, 20, 21, 6, 22, 23, 28, 29, 30] (by decide +kernel) (by decide +kernel)
set_option maxRecDepth 20000 in
theorem gX8_isCandidate_X7_nearestIn : GoodIn wsX8_isCandidate (wsV RX8 39 RX7 yX7_nearestIn wsX7_nearestIn) := goodIn_app (goodIn_of _ (by decide +kernel)) ggX8_isCandidate_X7_nearestIn
theorem dX8_isCandidate_0 : decode cX8_isCandidate 0 = .ok (.iconst 0, 1) := by decide +kernel
theorem dX8_isCandidate_1 : decode cX8_isCandidate 1 = .ok (.istore_n 2, 1) := by decide +kernel
theorem dX8_isCandidate_2 : decode cX8_isCandidate 2 = .ok (.iload_n 2, 1) := by decide +kernel
theorem dX8_isCandidate_3 : decode cX8_isCandidate 3 = .ok (.aload_n 1, 1) := by decide +kernel
theorem dX8_isCandidate_4 : decode cX8_isCandidate 4 = .ok (.invokevirtual 27, 3) := by decide +kernel
theorem dX8_isCandidate_7 : decode cX8_isCandidate 7 = .ok (.if_icmp .ge 37, 3) := by decide +kernel
theorem dX8_isCandidate_10 : decode cX8_isCandidate 10 = .ok (.aload_n 1, 1) := by decide +kernel
theorem dX8_isCandidate_11 : decode cX8_isCandidate 11 = .ok (.aload_n 0, 1) := by decide +kernel
theorem dX8_isCandidate_12 : decode cX8_isCandidate 12 = .ok (.getfield 15, 3) := by decide +kernel
theorem dX8_isCandidate_15 : decode cX8_isCandidate 15 = .ok (.invokevirtual 33, 3) := by decide +kernel
theorem dX8_isCandidate_18 : decode cX8_isCandidate 18 = .ok (.iload_n 2, 1) := by decide +kernel
theorem dX8_isCandidate_19 : decode cX8_isCandidate 19 = .ok (.invokevirtual 39, 3) := by decide +kernel
theorem dX8_isCandidate_22 : decode cX8_isCandidate 22 = .ok (.istore_n 3, 1) := by decide +kernel
theorem dX8_isCandidate_23 : decode cX8_isCandidate 23 = .ok (.iload_n 3, 1) := by decide +kernel
theorem dX8_isCandidate_24 : decode cX8_isCandidate 24 = .ok (.ifCond .lt 14, 3) := by decide +kernel
theorem dX8_isCandidate_27 : decode cX8_isCandidate 27 = .ok (.aload_n 0, 1) := by decide +kernel
theorem dX8_isCandidate_28 : decode cX8_isCandidate 28 = .ok (.getfield 9, 3) := by decide +kernel
theorem dX8_isCandidate_31 : decode cX8_isCandidate 31 = .ok (.iload_n 3, 1) := by decide +kernel
theorem dX8_isCandidate_32 : decode cX8_isCandidate 32 = .ok (.baload, 1) := by decide +kernel
theorem dX8_isCandidate_33 : decode cX8_isCandidate 33 = .ok (.ifCond .eq 5, 3) := by decide +kernel
theorem dX8_isCandidate_36 : decode cX8_isCandidate 36 = .ok (.iconst 1, 1) := by decide +kernel
theorem dX8_isCandidate_37 : decode cX8_isCandidate 37 = .ok (.ireturn, 1) := by decide +kernel
theorem dX8_isCandidate_38 : decode cX8_isCandidate 38 = .ok (.iinc 2 1, 3) := by decide +kernel
theorem dX8_isCandidate_41 : decode cX8_isCandidate 41 = .ok (.goto (-39), 3) := by decide +kernel
theorem dX8_isCandidate_44 : decode cX8_isCandidate 44 = .ok (.iconst 0, 1) := by decide +kernel
theorem dX8_isCandidate_45 : decode cX8_isCandidate 45 = .ok (.ireturn, 1) := by decide +kernel
set_option maxRecDepth 20000 in
theorem ggX8_scoreOf_X0_tokensOf : GoodIn wsX8_scoreOf wsX0_tokensOf := goodIn_r _ [7, 8, 32, 33, 34, 35, 36, 37] (by decide +kernel) (by decide +kernel)
set_option maxRecDepth 20000 in
theorem gX8_scoreOf_X0_tokensOf : GoodIn wsX8_scoreOf (wsV RX8 43 RX0 yX0_tokensOf wsX0_tokensOf) := goodIn_app (goodIn_of _ (by decide +kernel)) ggX8_scoreOf_X0_tokensOf
set_option maxRecDepth 20000 in
theorem ggX8_scoreOf_X7_size : GoodIn wsX8_scoreOf wsX7_size := goodIn_r _ [13, 14, 38, 39, 40] (by decide +kernel) (by decide +kernel)
set_option maxRecDepth 20000 in
theorem gX8_scoreOf_X7_size : GoodIn wsX8_scoreOf (wsV RX8 27 RX7 yX7_size wsX7_size) := goodIn_app (goodIn_of _ (by decide +kernel)) ggX8_scoreOf_X7_size
set_option maxRecDepth 20000 in
theorem ggX8_scoreOf_X8_greatestProduct : GoodIn wsX8_scoreOf wsX8_greatestProduct := goodIn_r _ [19, 2, 9, 10, 11, 12, 13, 14, 20, 21, 22, 23, 24, 25, 26, 27, 28, 29, 30, 31, 38, 39, 40] (by decide +kernel) (by decide +kernel)
set_option maxRecDepth 20000 in
theorem gX8_scoreOf_X8_greatestProduct : GoodIn wsX8_scoreOf (wsV RX8 51 RX8 yX8_greatestProduct wsX8_greatestProduct) := goodIn_app (goodIn_of _ (by decide +kernel)) ggX8_scoreOf_X8_greatestProduct
theorem dX8_scoreOf_0 : decode cX8_scoreOf 0 = .ok (.aload_n 0, 1) := by decide +kernel
theorem dX8_scoreOf_1 : decode cX8_scoreOf 1 = .ok (.getfield 15, 3) := by decide +kernel
theorem dX8_scoreOf_4 : decode cX8_scoreOf 4 = .ok (.iload_n 1, 1) := by decide +kernel
theorem dX8_scoreOf_5 : decode cX8_scoreOf 5 = .ok (.invokevirtual 43, 3) := by decide +kernel
theorem dX8_scoreOf_8 : decode cX8_scoreOf 8 = .ok (.astore_n 2, 1) := by decide +kernel
theorem dX8_scoreOf_9 : decode cX8_scoreOf 9 = .ok (.fconst 0, 1) := by decide +kernel
theorem dX8_scoreOf_10 : decode cX8_scoreOf 10 = .ok (.fstore_n 3, 1) := by decide +kernel
theorem dX8_scoreOf_11 : decode cX8_scoreOf 11 = .ok (.iconst 0, 1) := by decide +kernel
theorem dX8_scoreOf_12 : decode cX8_scoreOf 12 = .ok (.istore 4, 2) := by decide +kernel
theorem dX8_scoreOf_14 : decode cX8_scoreOf 14 = .ok (.iload 4, 2) := by decide +kernel
theorem dX8_scoreOf_16 : decode cX8_scoreOf 16 = .ok (.aload_n 0, 1) := by decide +kernel
theorem dX8_scoreOf_17 : decode cX8_scoreOf 17 = .ok (.getfield 19, 3) := by decide +kernel
theorem dX8_scoreOf_20 : decode cX8_scoreOf 20 = .ok (.invokevirtual 27, 3) := by decide +kernel
theorem dX8_scoreOf_23 : decode cX8_scoreOf 23 = .ok (.if_icmp .ge 19, 3) := by decide +kernel
theorem dX8_scoreOf_26 : decode cX8_scoreOf 26 = .ok (.fload_n 3, 1) := by decide +kernel
theorem dX8_scoreOf_27 : decode cX8_scoreOf 27 = .ok (.aload_n 0, 1) := by decide +kernel
theorem dX8_scoreOf_28 : decode cX8_scoreOf 28 = .ok (.iload 4, 2) := by decide +kernel
theorem dX8_scoreOf_30 : decode cX8_scoreOf 30 = .ok (.aload_n 2, 1) := by decide +kernel
theorem dX8_scoreOf_31 : decode cX8_scoreOf 31 = .ok (.invokevirtual 51, 3) := by decide +kernel
theorem dX8_scoreOf_34 : decode cX8_scoreOf 34 = .ok (.fadd, 1) := by decide +kernel
theorem dX8_scoreOf_35 : decode cX8_scoreOf 35 = .ok (.fstore_n 3, 1) := by decide +kernel
theorem dX8_scoreOf_36 : decode cX8_scoreOf 36 = .ok (.iinc 4 1, 3) := by decide +kernel
theorem dX8_scoreOf_39 : decode cX8_scoreOf 39 = .ok (.goto (-25), 3) := by decide +kernel
theorem dX8_scoreOf_42 : decode cX8_scoreOf 42 = .ok (.fload_n 3, 1) := by decide +kernel
theorem dX8_scoreOf_43 : decode cX8_scoreOf 43 = .ok (.f2d, 1) := by decide +kernel
theorem dX8_scoreOf_44 : decode cX8_scoreOf 44 = .ok (.dreturn, 1) := by decide +kernel
set_option maxRecDepth 20000 in
theorem ggX8_greatestProduct_X7_size : GoodIn wsX8_greatestProduct wsX7_size := goodIn_r _ [6, 7, 20, 21, 22] (by decide +kernel) (by decide +kernel)
set_option maxRecDepth 20000 in
theorem gX8_greatestProduct_X7_size : GoodIn wsX8_greatestProduct (wsV RX8 27 RX7 yX7_size wsX7_size) := goodIn_app (goodIn_of _ (by decide +kernel)) ggX8_greatestProduct_X7_size
set_option maxRecDepth 20000 in
theorem ggX8_greatestProduct_X7_product : GoodIn wsX8_greatestProduct wsX7_product := goodIn_r _ [11, 12, 20, 21, 22] (by decide +kernel) (by decide +kernel)
set_option maxRecDepth 20000 in
theorem gX8_greatestProduct_X7_product : GoodIn wsX8_greatestProduct (wsV RX8 55 RX7 yX7_product wsX7_product) := goodIn_app (goodIn_of _ (by decide +kernel)) ggX8_greatestProduct_X7_product
set_option maxRecDepth 20000 in
theorem ggX8_greatestProduct_X9_greater : GoodIn wsX8_greatestProduct wsX9_greater := goodIn_r _ [15] (by decide +kernel) (by decide +kernel)
set_option maxRecDepth 20000 in
theorem gX8_greatestProduct_X9_greater_n59 : GoodIn wsX8_greatestProduct (wsX9_greater) := ggX8_greatestProduct_X9_greater
theorem dX8_greatestProduct_0 : decode cX8_greatestProduct 0 = .ok (.aload_n 2, 1) := by decide +kernel
theorem dX8_greatestProduct_1 : decode cX8_greatestProduct 1 = .ok (.invokevirtual 27, 3) := by decide +kernel
theorem dX8_greatestProduct_4 : decode cX8_greatestProduct 4 = .ok (.ifCond .ne 5, 3) := by decide +kernel
theorem dX8_greatestProduct_7 : decode cX8_greatestProduct 7 = .ok (.fconst 0, 1) := by decide +kernel
theorem dX8_greatestProduct_8 : decode cX8_greatestProduct 8 = .ok (.freturn, 1) := by decide +kernel
theorem dX8_greatestProduct_9 : decode cX8_greatestProduct 9 = .ok (.aload_n 0, 1) := by decide +kernel
theorem dX8_greatestProduct_10 : decode cX8_greatestProduct 10 = .ok (.getfield 19, 3) := by decide +kernel
theorem dX8_greatestProduct_13 : decode cX8_greatestProduct 13 = .ok (.iload_n 1, 1) := by decide +kernel
theorem dX8_greatestProduct_14 : decode cX8_greatestProduct 14 = .ok (.aload_n 2, 1) := by decide +kernel
theorem dX8_greatestProduct_15 : decode cX8_greatestProduct 15 = .ok (.iconst 0, 1) := by decide +kernel
theorem dX8_greatestProduct_16 : decode cX8_greatestProduct 16 = .ok (.invokevirtual 55, 3) := by decide +kernel
theorem dX8_greatestProduct_19 : decode cX8_greatestProduct 19 = .ok (.fstore_n 3, 1) := by decide +kernel
theorem dX8_greatestProduct_20 : decode cX8_greatestProduct 20 = .ok (.iconst 1, 1) := by decide +kernel
theorem dX8_greatestProduct_21 : decode cX8_greatestProduct 21 = .ok (.istore 4, 2) := by decide +kernel
theorem dX8_greatestProduct_23 : decode cX8_greatestProduct 23 = .ok (.iload 4, 2) := by decide +kernel
theorem dX8_greatestProduct_25 : decode cX8_greatestProduct 25 = .ok (.aload_n 2, 1) := by decide +kernel
theorem dX8_greatestProduct_26 : decode cX8_greatestProduct 26 = .ok (.invokevirtual 27, 3) := by decide +kernel
theorem dX8_greatestProduct_29 : decode cX8_greatestProduct 29 = .ok (.if_icmp .ge 25, 3) := by decide +kernel
theorem dX8_greatestProduct_32 : decode cX8_greatestProduct 32 = .ok (.fload_n 3, 1) := by decide +kernel
theorem dX8_greatestProduct_33 : decode cX8_greatestProduct 33 = .ok (.aload_n 0, 1) := by decide +kernel
theorem dX8_greatestProduct_34 : decode cX8_greatestProduct 34 = .ok (.getfield 19, 3) := by decide +kernel
theorem dX8_greatestProduct_37 : decode cX8_greatestProduct 37 = .ok (.iload_n 1, 1) := by decide +kernel
theorem dX8_greatestProduct_38 : decode cX8_greatestProduct 38 = .ok (.aload_n 2, 1) := by decide +kernel
theorem dX8_greatestProduct_39 : decode cX8_greatestProduct 39 = .ok (.iload 4, 2) := by decide +kernel
theorem dX8_greatestProduct_41 : decode cX8_greatestProduct 41 = .ok (.invokevirtual 55, 3) := by decide +kernel
theorem dX8_greatestProduct_44 : decode cX8_greatestProduct 44 = .ok (.invokestatic 59, 3) := by decide +kernel
theorem dX8_greatestProduct_47 : decode cX8_greatestProduct 47 = .ok (.fstore_n 3, 1) := by decide +kernel
theorem dX8_greatestProduct_48 : decode cX8_greatestProduct 48 = .ok (.iinc 4 1, 3) := by decide +kernel
theorem dX8_greatestProduct_51 : decode cX8_greatestProduct 51 = .ok (.goto (-28), 3) := by decide +kernel
theorem dX8_greatestProduct_54 : decode cX8_greatestProduct 54 = .ok (.fload_n 3, 1) := by decide +kernel
theorem dX8_greatestProduct_55 : decode cX8_greatestProduct 55 = .ok (.freturn, 1) := by decide +kernel
set_option maxRecDepth 20000 in
theorem ggX9_init_X0_init : GoodIn wsX9_init wsX0_init := goodIn_r _ [39, 40, 2, 3, 41, 42, 43, 44, 45, 46, 47, 48, 49, 14, 15, 50, 51, 52, 53, 54, 55, 56, 57, 58, 59, 60, 101, 102, 103, 104, 105, 106, 119, 120, 121] (by decide +kernel) (by decide +kernel)
set_option maxRecDepth 20000 in
theorem gX9_init_X0_init : GoodIn wsX9_init (wsX0_init) := ggX9_init_X0_init
set_option maxRecDepth 20000 in
theorem ggX9_init_X6_init : GoodIn wsX9_init wsX6_init := goodIn_r _ [62, 63, 2, 3, 42, 64, 65, 116, 117, 118] (by decide +kernel) (by decide +kernel)
set_option maxRecDepth 20000 in
theorem gX9_init_X6_init_n18 : GoodIn wsX9_init (wsX6_init) := ggX9_init_X6_init
set_option maxRecDepth 20000 in
theorem ggX9_init_X7_init : GoodIn wsX9_init wsX7_init := goodIn_r _ [53, 54, 2, 3, 55, 56, 57, 58, 59, 46, 60, 119, 120, 121] (by decide +kernel) (by decide +kernel)
set_option maxRecDepth 20000 in
theorem gX9_init_X7_init : GoodIn wsX9_init (wsX7_init) := ggX9_init_X7_init
set_option maxRecDepth 20000 in
theorem ggX9_init_X3_init : GoodIn wsX9_init wsX3_init := goodIn_r _ [68, 69, 70, 71, 72, 73, 74, 75, 76, 2, 3, 122, 123, 124] (by decide +kernel) (by decide +kernel)
set_option maxRecDepth 20000 in
theorem gX9_init_X3_init_n37 : GoodIn wsX9_init (wsX3_init) := ggX9_init_X3_init
set_option maxRecDepth 20000 in
theorem ggX9_init_X8_init : GoodIn wsX9_init wsX8_init := goodIn_r _ [79, 80, 81, 82, 83, 73, 74, 75, 76, 2, 3, 125, 126, 127, 128] (by decide +kernel) (by decide +kernel)
set_option maxRecDepth 20000 in
theorem gX9_init_X8_init : GoodIn wsX9_init (wsX8_init) := ggX9_init_X8_init
set_option maxRecDepth 20000 in
theorem ggX9_init_X4_init : GoodIn wsX9_init wsX4_init := goodIn_r _ [85, 86, 2, 3, 42, 87, 70, 88, 129, 130, 131, 132] (by decide +kernel) (by decide +kernel)
set_option maxRecDepth 20000 in
theorem gX9_init_X4_init_n53 : GoodIn wsX9_init (wsX4_init) := ggX9_init_X4_init
set_option maxRecDepth 20000 in
theorem ggX9_init_X2_init : GoodIn wsX9_init wsX2_init := goodIn_r _ [90, 91, 2, 3, 92, 26, 27, 93, 84, 85, 86, 42, 87, 70, 88, 129, 130, 131, 132, 133, 134, 135, 136, 137] (by decide +kernel) (by decide +kernel)
set_option maxRecDepth 20000 in
theorem gX9_init_X2_init_n64 : GoodIn wsX9_init (wsX2_init) := ggX9_init_X2_init
set_option maxRecDepth 20000 in
theorem ggX9_init_X1_init : GoodIn wsX9_init wsX1_init := goodIn_r _ [95, 96, 2, 3, 97, 26, 27, 98, 70, 99, 42, 100, 84, 85, 86, 87, 88, 129, 130, 131, 132, 138, 139, 140] (by decide +kernel) (by decide +kernel)
set_option maxRecDepth 20000 in
theorem gX9_init_X1_init_n67 : GoodIn wsX9_init (wsX1_init) := ggX9_init_X1_init
theorem dX9_init_0 : decode cX9_init 0 = .ok (.aload_n 0, 1) := by decide +kernel
theorem dX9_init_1 : decode cX9_init 1 = .ok (.invokespecial 3, 3) := by decide +kernel
theorem dX9_init_4 : decode cX9_init 4 = .ok (.aload_n 0, 1) := by decide +kernel
theorem dX9_init_5 : decode cX9_init 5 = .ok (.new 9, 3) := by decide +kernel
theorem dX9_init_8 : decode cX9_init 8 = .ok (.dup, 1) := by decide +kernel
theorem dX9_init_9 : decode cX9_init 9 = .ok (.invokespecial 11, 3) := by decide +kernel
theorem dX9_init_12 : decode cX9_init 12 = .ok (.putfield 12, 3) := by decide +kernel
theorem dX9_init_15 : decode cX9_init 15 = .ok (.aload_n 0, 1) := by decide +kernel
theorem dX9_init_16 : decode cX9_init 16 = .ok (.new 16, 3) := by decide +kernel
theorem dX9_init_19 : decode cX9_init 19 = .ok (.dup, 1) := by decide +kernel
theorem dX9_init_20 : decode cX9_init 20 = .ok (.invokespecial 18, 3) := by decide +kernel
theorem dX9_init_23 : decode cX9_init 23 = .ok (.putfield 19, 3) := by decide +kernel
theorem dX9_init_26 : decode cX9_init 26 = .ok (.aload_n 0, 1) := by decide +kernel
theorem dX9_init_27 : decode cX9_init 27 = .ok (.new 16, 3) := by decide +kernel
theorem dX9_init_30 : decode cX9_init 30 = .ok (.dup, 1) := by decide +kernel
theorem dX9_init_31 : decode cX9_init 31 = .ok (.invokespecial 18, 3) := by decide +kernel
theorem dX9_init_34 : decode cX9_init 34 = .ok (.putfield 23, 3) := by decide +kernel
theorem dX9_init_37 : decode cX9_init 37 = .ok (.aload_n 0, 1) := by decide +kernel
theorem dX9_init_38 : decode cX9_init 38 = .ok (.new 26, 3) := by decide +kernel
theorem dX9_init_41 : decode cX9_init 41 = .ok (.dup, 1) := by decide +kernel
theorem dX9_init_42 : decode cX9_init 42 = .ok (.iconst 3, 1) := by decide +kernel
theorem dX9_init_43 : decode cX9_init 43 = .ok (.invokespecial 28, 3) := by decide +kernel
theorem dX9_init_46 : decode cX9_init 46 = .ok (.putfield 31, 3) := by decide +kernel
theorem dX9_init_49 : decode cX9_init 49 = .ok (.aload_n 0, 1) := by decide +kernel
theorem dX9_init_50 : decode cX9_init 50 = .ok (.new 35, 3) := by decide +kernel
theorem dX9_init_53 : decode cX9_init 53 = .ok (.dup, 1) := by decide +kernel
theorem dX9_init_54 : decode cX9_init 54 = .ok (.invokespecial 37, 3) := by decide +kernel
theorem dX9_init_57 : decode cX9_init 57 = .ok (.putfield 38, 3) := by decide +kernel
theorem dX9_init_60 : decode cX9_init 60 = .ok (.aload_n 0, 1) := by decide +kernel
theorem dX9_init_61 : decode cX9_init 61 = .ok (.new 42, 3) := by decide +kernel
theorem dX9_init_64 : decode cX9_init 64 = .ok (.dup, 1) := by decide +kernel
theorem dX9_init_65 : decode cX9_init 65 = .ok (.aload_n 0, 1) := by decide +kernel
theorem dX9_init_66 : decode cX9_init 66 = .ok (.getfield 12, 3) := by decide +kernel
theorem dX9_init_69 : decode cX9_init 69 = .ok (.aload_n 0, 1) := by decide +kernel
theorem dX9_init_70 : decode cX9_init 70 = .ok (.getfield 31, 3) := by decide +kernel
theorem dX9_init_73 : decode cX9_init 73 = .ok (.invokespecial 44, 3) := by decide +kernel
theorem dX9_init_76 : decode cX9_init 76 = .ok (.putfield 47, 3) := by decide +kernel
theorem dX9_init_79 : decode cX9_init 79 = .ok (.aload_n 0, 1) := by decide +kernel
theorem dX9_init_80 : decode cX9_init 80 = .ok (.new 51, 3) := by decide +kernel
theorem dX9_init_83 : decode cX9_init 83 = .ok (.dup, 1) := by decide +kernel
theorem dX9_init_84 : decode cX9_init 84 = .ok (.invokespecial 53, 3) := by decide +kernel
theorem dX9_init_87 : decode cX9_init 87 = .ok (.putfield 54, 3) := by decide +kernel
theorem dX9_init_90 : decode cX9_init 90 = .ok (.aload_n 0, 1) := by decide +kernel
theorem dX9_init_91 : decode cX9_init 91 = .ok (.iconst 3, 1) := by decide +kernel
theorem dX9_init_92 : decode cX9_init 92 = .ok (.anewarray 58, 3) := by decide +kernel
theorem dX9_init_95 : decode cX9_init 95 = .ok (.putfield 60, 3) := by decide +kernel
theorem dX9_init_98 : decode cX9_init 98 = .ok (.iconst 0, 1) := by decide +kernel
theorem dX9_init_99 : decode cX9_init 99 = .ok (.istore_n 1, 1) := by decide +kernel
theorem dX9_init_100 : decode cX9_init 100 = .ok (.iload_n 1, 1) := by decide +kernel
theorem dX9_init_101 : decode cX9_init 101 = .ok (.iconst 3, 1) := by decide +kernel
theorem dX9_init_102 : decode cX9_init 102 = .ok (.if_icmp .ge 22, 3) := by decide +kernel
theorem dX9_init_105 : decode cX9_init 105 = .ok (.aload_n 0, 1) := by decide +kernel
theorem dX9_init_106 : decode cX9_init 106 = .ok (.getfield 60, 3) := by decide +kernel
theorem dX9_init_109 : decode cX9_init 109 = .ok (.iload_n 1, 1) := by decide +kernel
theorem dX9_init_110 : decode cX9_init 110 = .ok (.new 58, 3) := by decide +kernel
theorem dX9_init_113 : decode cX9_init 113 = .ok (.dup, 1) := by decide +kernel
theorem dX9_init_114 : decode cX9_init 114 = .ok (.invokespecial 64, 3) := by decide +kernel
theorem dX9_init_117 : decode cX9_init 117 = .ok (.aastore, 1) := by decide +kernel
theorem dX9_init_118 : decode cX9_init 118 = .ok (.iinc 1 1, 3) := by decide +kernel
theorem dX9_init_121 : decode cX9_init 121 = .ok (.goto (-21), 3) := by decide +kernel
theorem dX9_init_124 : decode cX9_init 124 = .ok (.aload_n 0, 1) := by decide +kernel
theorem dX9_init_125 : decode cX9_init 125 = .ok (.new 65, 3) := by decide +kernel
theorem dX9_init_128 : decode cX9_init 128 = .ok (.dup, 1) := by decide +kernel
theorem dX9_init_129 : decode cX9_init 129 = .ok (.invokespecial 67, 3) := by decide +kernel
theorem dX9_init_132 : decode cX9_init 132 = .ok (.putfield 68, 3) := by decide +kernel
theorem dX9_init_135 : decode cX9_init 135 = .ok (.return_, 1) := by decide +kernel
set_option maxRecDepth 20000 in
theorem ggX9_document_X0_isFull : GoodIn wsX9_document wsX0_isFull := goodIn_r _ [8, 9, 57, 58, 59, 60, 61, 62] (by decide +kernel) (by decide +kernel)
set_option maxRecDepth 20000 in
theorem gX9_document_X0_isFull : GoodIn wsX9_document (wsV RX9 72 RX0 yX0_isFull wsX0_isFull) := goodIn_app (goodIn_of _ (by decide +kernel)) ggX9_document_X0_isFull
set_option maxRecDepth 20000 in
theorem ggX9_document_X9_forgetAllLists : GoodIn wsX9_document wsX9_forgetAllLists := goodIn_r _ [14, 15, 16, 17, 13, 18, 19, 20, 21, 22, 23, 24, 25, 26, 27, 28, 29, 30, 31, 32, 33, 34, 35, 36, 37, 38, 39, 40, 41, 42, 43, 48, 49, 50, 51, 52, 53, 54, 55, 56, 63, 64, 65, 66, 67, 68, 69, 70, 71, 72, 73, 74] (by decide +kernel) (by decide +kernel)
set_option maxRecDepth 20000 in
theorem gX9_document_X9_forgetAllLists : GoodIn wsX9_document (wsV RX9 83 RX9 yX9_forgetAllLists wsX9_forgetAllLists) := goodIn_app (goodIn_of _ (by decide +kernel)) ggX9_document_X9_forgetAllLists
set_option maxRecDepth 20000 in
theorem ggX9_document_X0_addDocument : GoodIn wsX9_document wsX0_addDocument := goodIn_r _ [47, 9, 57, 58, 59, 60, 61, 62] (by decide +kernel) (by decide +kernel)
set_option maxRecDepth 20000 in
theorem gX9_document_X0_addDocument : GoodIn wsX9_document (wsV RX9 86 RX0 yX0_addDocument wsX0_addDocument) := goodIn_app (goodIn_of _ (by decide +kernel)) ggX9_document_X0_addDocument
theorem dX9_document_0 : decode cX9_document 0 = .ok (.aload_n 0, 1) := by decide +kernel
theorem dX9_document_1 : decode cX9_document 1 = .ok (.getfield 12, 3) := by decide +kernel
theorem dX9_document_4 : decode cX9_document 4 = .ok (.invokevirtual 72, 3) := by decide +kernel
theorem dX9_document_7 : decode cX9_document 7 = .ok (.ifCond .eq 13, 3) := by decide +kernel
theorem dX9_document_10 : decode cX9_document 10 = .ok (.new 76, 3) := by decide +kernel
theorem dX9_document_13 : decode cX9_document 13 = .ok (.dup, 1) := by decide +kernel
theorem dX9_document_14 : decode cX9_document 14 = .ok (.ldc 78, 2) := by decide +kernel
theorem dX9_document_16 : decode cX9_document 16 = .ok (.invokespecial 80, 3) := by decide +kernel
theorem dX9_document_19 : decode cX9_document 19 = .ok (.athrow, 1) := by decide +kernel
theorem dX9_document_20 : decode cX9_document 20 = .ok (.aload_n 0, 1) := by decide +kernel
theorem dX9_document_21 : decode cX9_document 21 = .ok (.invokevirtual 83, 3) := by decide +kernel
theorem dX9_document_24 : decode cX9_document 24 = .ok (.aload_n 0, 1) := by decide +kernel
theorem dX9_document_25 : decode cX9_document 25 = .ok (.getfield 12, 3) := by decide +kernel
theorem dX9_document_28 : decode cX9_document 28 = .ok (.invokevirtual 86, 3) := by decide +kernel
theorem dX9_document_31 : decode cX9_document 31 = .ok (.ireturn, 1) := by decide +kernel
set_option maxRecDepth 20000 in
theorem ggX9_count_X0_holds : GoodIn wsX9_count wsX0_holds := goodIn_r _ [10, 11, 68, 69, 70, 71, 72, 73] (by decide +kernel) (by decide +kernel)
set_option maxRecDepth 20000 in
theorem gX9_count_X0_holds : GoodIn wsX9_count (wsV RX9 90 RX0 yX0_holds wsX0_holds) := goodIn_app (goodIn_of _ (by decide +kernel)) ggX9_count_X0_holds
set_option maxRecDepth 20000 in
theorem ggX9_count_X9_isTerm : GoodIn wsX9_count wsX9_isTerm := goodIn_r _ [15] (by decide +kernel) (by decide +kernel)
set_option maxRecDepth 20000 in
theorem gX9_count_X9_isTerm : GoodIn wsX9_count (va_wsS RX9 94 yX9_isTerm wsX9_isTerm) := goodIn_app (goodIn_of _ (by decide +kernel)) ggX9_count_X9_isTerm
set_option maxRecDepth 20000 in
theorem ggX9_count_X0_countOf : GoodIn wsX9_count wsX0_countOf := goodIn_r _ [19, 20, 68, 69, 70, 71, 72, 73] (by decide +kernel) (by decide +kernel)
set_option maxRecDepth 20000 in
theorem gX9_count_X0_countOf : GoodIn wsX9_count (wsV RX9 102 RX0 yX0_countOf wsX0_countOf) := goodIn_app (goodIn_of _ (by decide +kernel)) ggX9_count_X0_countOf
set_option maxRecDepth 20000 in
theorem ggX9_count_X9_forgetAllLists : GoodIn wsX9_count wsX9_forgetAllLists := goodIn_r _ [24, 25, 26, 27, 14, 28, 29, 30, 31, 32, 33, 34, 35, 36, 37, 38, 39, 40, 41, 42, 43, 44, 45, 46, 47, 48, 49, 50, 51, 52, 53, 59, 60, 61, 62, 63, 64, 65, 66, 67, 74, 75, 76, 77, 78, 79, 80, 81, 82, 83, 84, 85] (by decide +kernel) (by decide +kernel)
set_option maxRecDepth 20000 in
theorem gX9_count_X9_forgetAllLists : GoodIn wsX9_count (wsV RX9 83 RX9 yX9_forgetAllLists wsX9_forgetAllLists) := goodIn_app (goodIn_of _ (by decide +kernel)) ggX9_count_X9_forgetAllLists
set_option maxRecDepth 20000 in
theorem ggX9_count_X0_addCount : GoodIn wsX9_count wsX0_addCount := goodIn_r _ [57, 20, 58, 68, 69, 70, 71, 72, 73] (by decide +kernel) (by decide +kernel)
set_option maxRecDepth 20000 in
theorem gX9_count_X0_addCount : GoodIn wsX9_count (wsV RX9 108 RX0 yX0_addCount wsX0_addCount) := goodIn_app (goodIn_of _ (by decide +kernel)) ggX9_count_X0_addCount
theorem dX9_count_0 : decode cX9_count 0 = .ok (.aload_n 0, 1) := by decide +kernel
theorem dX9_count_1 : decode cX9_count 1 = .ok (.getfield 12, 3) := by decide +kernel
theorem dX9_count_4 : decode cX9_count 4 = .ok (.iload_n 1, 1) := by decide +kernel
theorem dX9_count_5 : decode cX9_count 5 = .ok (.invokevirtual 90, 3) := by decide +kernel
theorem dX9_count_8 : decode cX9_count 8 = .ok (.ifCond .eq 10, 3) := by decide +kernel
theorem dX9_count_11 : decode cX9_count 11 = .ok (.iload_n 2, 1) := by decide +kernel
theorem dX9_count_12 : decode cX9_count 12 = .ok (.invokestatic 94, 3) := by decide +kernel
theorem dX9_count_15 : decode cX9_count 15 = .ok (.ifCond .ne 13, 3) := by decide +kernel
theorem dX9_count_18 : decode cX9_count 18 = .ok (.new 97, 3) := by decide +kernel
theorem dX9_count_21 : decode cX9_count 21 = .ok (.dup, 1) := by decide +kernel
theorem dX9_count_22 : decode cX9_count 22 = .ok (.ldc 99, 2) := by decide +kernel
theorem dX9_count_24 : decode cX9_count 24 = .ok (.invokespecial 101, 3) := by decide +kernel
theorem dX9_count_27 : decode cX9_count 27 = .ok (.athrow, 1) := by decide +kernel
theorem dX9_count_28 : decode cX9_count 28 = .ok (.aload_n 0, 1) := by decide +kernel
theorem dX9_count_29 : decode cX9_count 29 = .ok (.getfield 12, 3) := by decide +kernel
theorem dX9_count_32 : decode cX9_count 32 = .ok (.iload_n 1, 1) := by decide +kernel
theorem dX9_count_33 : decode cX9_count 33 = .ok (.iload_n 2, 1) := by decide +kernel
theorem dX9_count_34 : decode cX9_count 34 = .ok (.invokevirtual 102, 3) := by decide +kernel
theorem dX9_count_37 : decode cX9_count 37 = .ok (.sipush 1000, 3) := by decide +kernel
theorem dX9_count_40 : decode cX9_count 40 = .ok (.if_icmp .lt 13, 3) := by decide +kernel
theorem dX9_count_43 : decode cX9_count 43 = .ok (.new 76, 3) := by decide +kernel
theorem dX9_count_46 : decode cX9_count 46 = .ok (.dup, 1) := by decide +kernel
theorem dX9_count_47 : decode cX9_count 47 = .ok (.ldc 106, 2) := by decide +kernel
theorem dX9_count_49 : decode cX9_count 49 = .ok (.invokespecial 80, 3) := by decide +kernel
theorem dX9_count_52 : decode cX9_count 52 = .ok (.athrow, 1) := by decide +kernel
theorem dX9_count_53 : decode cX9_count 53 = .ok (.aload_n 0, 1) := by decide +kernel
theorem dX9_count_54 : decode cX9_count 54 = .ok (.invokevirtual 83, 3) := by decide +kernel
theorem dX9_count_57 : decode cX9_count 57 = .ok (.aload_n 0, 1) := by decide +kernel
theorem dX9_count_58 : decode cX9_count 58 = .ok (.getfield 12, 3) := by decide +kernel
theorem dX9_count_61 : decode cX9_count 61 = .ok (.iload_n 1, 1) := by decide +kernel
theorem dX9_count_62 : decode cX9_count 62 = .ok (.iload_n 2, 1) := by decide +kernel
theorem dX9_count_63 : decode cX9_count 63 = .ok (.invokevirtual 108, 3) := by decide +kernel
theorem dX9_count_66 : decode cX9_count 66 = .ok (.ireturn, 1) := by decide +kernel
set_option maxRecDepth 20000 in
theorem ggX9_weigh_X0_holds : GoodIn wsX9_weigh wsX0_holds := goodIn_r _ [10, 11, 68, 69, 70, 71, 72, 73] (by decide +kernel) (by decide +kernel)
set_option maxRecDepth 20000 in
theorem gX9_weigh_X0_holds : GoodIn wsX9_weigh (wsV RX9 90 RX0 yX0_holds wsX0_holds) := goodIn_app (goodIn_of _ (by decide +kernel)) ggX9_weigh_X0_holds
set_option maxRecDepth 20000 in
theorem ggX9_weigh_X9_isTerm : GoodIn wsX9_weigh wsX9_isTerm := goodIn_r _ [15] (by decide +kernel) (by decide +kernel)
set_option maxRecDepth 20000 in
theorem gX9_weigh_X9_isTerm : GoodIn wsX9_weigh (va_wsS RX9 94 yX9_isTerm wsX9_isTerm) := goodIn_app (goodIn_of _ (by decide +kernel)) ggX9_weigh_X9_isTerm
set_option maxRecDepth 20000 in
theorem ggX9_weigh_X9_isAllowed : GoodIn wsX9_weigh wsX9_isAllowed := goodIn_r _ [18, 19, 20] (by decide +kernel) (by decide +kernel)
set_option maxRecDepth 20000 in
theorem gX9_weigh_X9_isAllowed : GoodIn wsX9_weigh (va_wsS RX9 111 yX9_isAllowed wsX9_isAllowed) := goodIn_app (goodIn_of _ (by decide +kernel)) ggX9_weigh_X9_isAllowed
set_option maxRecDepth 20000 in
theorem ggX9_weigh_X9_forgetAllLists : GoodIn wsX9_weigh wsX9_forgetAllLists := goodIn_r _ [24, 25, 26, 27, 14, 28, 29, 30, 31, 32, 33, 34, 35, 36, 37, 38, 39, 40, 41, 42, 43, 44, 45, 46, 47, 48, 49, 50, 51, 52, 53, 59, 60, 61, 62, 63, 64, 65, 66, 67, 74, 75, 76, 77, 78, 79, 80, 81, 82, 83, 84, 85] (by decide +kernel) (by decide +kernel)
set_option maxRecDepth 20000 in
theorem gX9_weigh_X9_forgetAllLists : GoodIn wsX9_weigh (wsV RX9 83 RX9 yX9_forgetAllLists wsX9_forgetAllLists) := goodIn_app (goodIn_of _ (by decide +kernel)) ggX9_weigh_X9_forgetAllLists
set_option maxRecDepth 20000 in
theorem ggX9_weigh_X0_setWeight : GoodIn wsX9_weigh wsX0_setWeight := goodIn_r _ [57, 58, 68, 69, 70, 71, 72, 73] (by decide +kernel) (by decide +kernel)
set_option maxRecDepth 20000 in
theorem gX9_weigh_X0_setWeight : GoodIn wsX9_weigh (wsV RX9 120 RX0 yX0_setWeight wsX0_setWeight) := goodIn_app (goodIn_of _ (by decide +kernel)) ggX9_weigh_X0_setWeight
theorem dX9_weigh_0 : decode cX9_weigh 0 = .ok (.aload_n 0, 1) := by decide +kernel
theorem dX9_weigh_1 : decode cX9_weigh 1 = .ok (.getfield 12, 3) := by decide +kernel
theorem dX9_weigh_4 : decode cX9_weigh 4 = .ok (.iload_n 1, 1) := by decide +kernel
theorem dX9_weigh_5 : decode cX9_weigh 5 = .ok (.invokevirtual 90, 3) := by decide +kernel
theorem dX9_weigh_8 : decode cX9_weigh 8 = .ok (.ifCond .eq 10, 3) := by decide +kernel
theorem dX9_weigh_11 : decode cX9_weigh 11 = .ok (.iload_n 2, 1) := by decide +kernel
theorem dX9_weigh_12 : decode cX9_weigh 12 = .ok (.invokestatic 94, 3) := by decide +kernel
theorem dX9_weigh_15 : decode cX9_weigh 15 = .ok (.ifCond .ne 13, 3) := by decide +kernel
theorem dX9_weigh_18 : decode cX9_weigh 18 = .ok (.new 97, 3) := by decide +kernel
theorem dX9_weigh_21 : decode cX9_weigh 21 = .ok (.dup, 1) := by decide +kernel
theorem dX9_weigh_22 : decode cX9_weigh 22 = .ok (.ldc 99, 2) := by decide +kernel
theorem dX9_weigh_24 : decode cX9_weigh 24 = .ok (.invokespecial 101, 3) := by decide +kernel
theorem dX9_weigh_27 : decode cX9_weigh 27 = .ok (.athrow, 1) := by decide +kernel
theorem dX9_weigh_28 : decode cX9_weigh 28 = .ok (.fload_n 3, 1) := by decide +kernel
theorem dX9_weigh_29 : decode cX9_weigh 29 = .ok (.invokestatic 111, 3) := by decide +kernel
theorem dX9_weigh_32 : decode cX9_weigh 32 = .ok (.ifCond .eq 9, 3) := by decide +kernel
theorem dX9_weigh_35 : decode cX9_weigh 35 = .ok (.fload_n 3, 1) := by decide +kernel
theorem dX9_weigh_36 : decode cX9_weigh 36 = .ok (.fconst 0, 1) := by decide +kernel
theorem dX9_weigh_37 : decode cX9_weigh 37 = .ok (.fcmp .g, 1) := by decide +kernel
theorem dX9_weigh_38 : decode cX9_weigh 38 = .ok (.ifCond .ge 13, 3) := by decide +kernel
theorem dX9_weigh_41 : decode cX9_weigh 41 = .ok (.new 115, 3) := by decide +kernel
theorem dX9_weigh_44 : decode cX9_weigh 44 = .ok (.dup, 1) := by decide +kernel
theorem dX9_weigh_45 : decode cX9_weigh 45 = .ok (.ldc 117, 2) := by decide +kernel
theorem dX9_weigh_47 : decode cX9_weigh 47 = .ok (.invokespecial 119, 3) := by decide +kernel
theorem dX9_weigh_50 : decode cX9_weigh 50 = .ok (.athrow, 1) := by decide +kernel
theorem dX9_weigh_51 : decode cX9_weigh 51 = .ok (.aload_n 0, 1) := by decide +kernel
theorem dX9_weigh_52 : decode cX9_weigh 52 = .ok (.invokevirtual 83, 3) := by decide +kernel
theorem dX9_weigh_55 : decode cX9_weigh 55 = .ok (.aload_n 0, 1) := by decide +kernel
theorem dX9_weigh_56 : decode cX9_weigh 56 = .ok (.getfield 12, 3) := by decide +kernel
theorem dX9_weigh_59 : decode cX9_weigh 59 = .ok (.iload_n 1, 1) := by decide +kernel
theorem dX9_weigh_60 : decode cX9_weigh 60 = .ok (.iload_n 2, 1) := by decide +kernel
theorem dX9_weigh_61 : decode cX9_weigh 61 = .ok (.fload_n 3, 1) := by decide +kernel
theorem dX9_weigh_62 : decode cX9_weigh 62 = .ok (.invokevirtual 120, 3) := by decide +kernel
theorem dX9_weigh_65 : decode cX9_weigh 65 = .ok (.return_, 1) := by decide +kernel
set_option maxRecDepth 20000 in
theorem ggX9_token_X0_holds : GoodIn wsX9_token wsX0_holds := goodIn_r _ [12, 13, 82, 83, 84, 85, 86, 87] (by decide +kernel) (by decide +kernel)
set_option maxRecDepth 20000 in
theorem gX9_token_X0_holds : GoodIn wsX9_token (wsV RX9 90 RX0 yX0_holds wsX0_holds) := goodIn_app (goodIn_of _ (by decide +kernel)) ggX9_token_X0_holds
set_option maxRecDepth 20000 in
theorem ggX9_token_X9_areAllowed : GoodIn wsX9_token wsX9_areAllowed := goodIn_r _ [17, 18, 19, 16, 20, 21, 22] (by decide +kernel) (by decide +kernel)
set_option maxRecDepth 20000 in
theorem gX9_token_X9_areAllowed : GoodIn wsX9_token (va_wsS RX9 126 yX9_areAllowed wsX9_areAllowed) := goodIn_app (goodIn_of _ (by decide +kernel)) ggX9_token_X9_areAllowed
set_option maxRecDepth 20000 in
theorem ggX9_token_X0_tokensOf : GoodIn wsX9_token wsX0_tokensOf := goodIn_r _ [26, 27, 82, 83, 84, 85, 86, 87] (by decide +kernel) (by decide +kernel)
set_option maxRecDepth 20000 in
theorem gX9_token_X0_tokensOf : GoodIn wsX9_token (wsV RX9 132 RX0 yX0_tokensOf wsX0_tokensOf) := goodIn_app (goodIn_of _ (by decide +kernel)) ggX9_token_X0_tokensOf
set_option maxRecDepth 20000 in
theorem ggX9_token_X7_isFull : GoodIn wsX9_token wsX7_isFull := goodIn_r _ [32, 33, 34, 88, 89, 90] (by decide +kernel) (by decide +kernel)
set_option maxRecDepth 20000 in
theorem gX9_token_X7_isFull : GoodIn wsX9_token (wsV RX9 136 RX7 yX7_isFull wsX7_isFull) := goodIn_app (goodIn_of _ (by decide +kernel)) ggX9_token_X7_isFull
set_option maxRecDepth 20000 in
theorem ggX9_token_X9_forgetAllLists : GoodIn wsX9_token wsX9_forgetAllLists := goodIn_r _ [38, 39, 40, 41, 16, 42, 43, 44, 45, 46, 47, 48, 49, 50, 51, 52, 53, 54, 55, 56, 57, 58, 59, 60, 61, 62, 63, 64, 65, 66, 67, 73, 74, 75, 76, 77, 78, 79, 80, 81, 91, 92, 93, 94, 95, 96, 97, 98, 99, 100, 101, 102] (by decide +kernel) (by decide +kernel)
set_option maxRecDepth 20000 in
theorem gX9_token_X9_forgetAllLists : GoodIn wsX9_token (wsV RX9 83 RX9 yX9_forgetAllLists wsX9_forgetAllLists) := goodIn_app (goodIn_of _ (by decide +kernel)) ggX9_token_X9_forgetAllLists
set_option maxRecDepth 20000 in
theorem ggX9_token_X7_add : GoodIn wsX9_token wsX7_add := goodIn_r _ [71, 33, 34, 72, 88, 89, 90] (by decide +kernel) (by decide +kernel)
set_option maxRecDepth 20000 in
theorem gX9_token_X7_add : GoodIn wsX9_token (wsV RX9 139 RX7 yX7_add wsX7_add) := goodIn_app (goodIn_of _ (by decide +kernel)) ggX9_token_X7_add
theorem dX9_token_0 : decode cX9_token 0 = .ok (.aload_n 0, 1) := by decide +kernel
theorem dX9_token_1 : decode cX9_token 1 = .ok (.getfield 12, 3) := by decide +kernel
theorem dX9_token_4 : decode cX9_token 4 = .ok (.iload_n 1, 1) := by decide +kernel
theorem dX9_token_5 : decode cX9_token 5 = .ok (.invokevirtual 90, 3) := by decide +kernel
theorem dX9_token_8 : decode cX9_token 8 = .ok (.ifCond .ne 13, 3) := by decide +kernel
theorem dX9_token_11 : decode cX9_token 11 = .ok (.new 97, 3) := by decide +kernel
theorem dX9_token_14 : decode cX9_token 14 = .ok (.dup, 1) := by decide +kernel
theorem dX9_token_15 : decode cX9_token 15 = .ok (.ldc 124, 2) := by decide +kernel
theorem dX9_token_17 : decode cX9_token 17 = .ok (.invokespecial 101, 3) := by decide +kernel
theorem dX9_token_20 : decode cX9_token 20 = .ok (.athrow, 1) := by decide +kernel
theorem dX9_token_21 : decode cX9_token 21 = .ok (.fload_n 2, 1) := by decide +kernel
theorem dX9_token_22 : decode cX9_token 22 = .ok (.fload_n 3, 1) := by decide +kernel
theorem dX9_token_23 : decode cX9_token 23 = .ok (.fload 4, 2) := by decide +kernel
theorem dX9_token_25 : decode cX9_token 25 = .ok (.fload 5, 2) := by decide +kernel
theorem dX9_token_27 : decode cX9_token 27 = .ok (.invokestatic 126, 3) := by decide +kernel
theorem dX9_token_30 : decode cX9_token 30 = .ok (.ifCond .ne 13, 3) := by decide +kernel
theorem dX9_token_33 : decode cX9_token 33 = .ok (.new 115, 3) := by decide +kernel
theorem dX9_token_36 : decode cX9_token 36 = .ok (.dup, 1) := by decide +kernel
theorem dX9_token_37 : decode cX9_token 37 = .ok (.ldc 130, 2) := by decide +kernel
theorem dX9_token_39 : decode cX9_token 39 = .ok (.invokespecial 119, 3) := by decide +kernel
theorem dX9_token_42 : decode cX9_token 42 = .ok (.athrow, 1) := by decide +kernel
theorem dX9_token_43 : decode cX9_token 43 = .ok (.aload_n 0, 1) := by decide +kernel
theorem dX9_token_44 : decode cX9_token 44 = .ok (.getfield 12, 3) := by decide +kernel
theorem dX9_token_47 : decode cX9_token 47 = .ok (.iload_n 1, 1) := by decide +kernel
theorem dX9_token_48 : decode cX9_token 48 = .ok (.invokevirtual 132, 3) := by decide +kernel
theorem dX9_token_51 : decode cX9_token 51 = .ok (.astore 6, 2) := by decide +kernel
theorem dX9_token_53 : decode cX9_token 53 = .ok (.aload 6, 2) := by decide +kernel
theorem dX9_token_55 : decode cX9_token 55 = .ok (.invokevirtual 136, 3) := by decide +kernel
theorem dX9_token_58 : decode cX9_token 58 = .ok (.ifCond .eq 13, 3) := by decide +kernel
theorem dX9_token_61 : decode cX9_token 61 = .ok (.new 76, 3) := by decide +kernel
theorem dX9_token_64 : decode cX9_token 64 = .ok (.dup, 1) := by decide +kernel
theorem dX9_token_65 : decode cX9_token 65 = .ok (.ldc 137, 2) := by decide +kernel
theorem dX9_token_67 : decode cX9_token 67 = .ok (.invokespecial 80, 3) := by decide +kernel
theorem dX9_token_70 : decode cX9_token 70 = .ok (.athrow, 1) := by decide +kernel
theorem dX9_token_71 : decode cX9_token 71 = .ok (.aload_n 0, 1) := by decide +kernel
theorem dX9_token_72 : decode cX9_token 72 = .ok (.invokevirtual 83, 3) := by decide +kernel
theorem dX9_token_75 : decode cX9_token 75 = .ok (.aload 6, 2) := by decide +kernel
theorem dX9_token_77 : decode cX9_token 77 = .ok (.fload_n 2, 1) := by decide +kernel
theorem dX9_token_78 : decode cX9_token 78 = .ok (.fload_n 3, 1) := by decide +kernel
theorem dX9_token_79 : decode cX9_token 79 = .ok (.fload 4, 2) := by decide +kernel
theorem dX9_token_81 : decode cX9_token 81 = .ok (.fload 5, 2) := by decide +kernel
theorem dX9_token_83 : decode cX9_token 83 = .ok (.invokevirtual 139, 3) := by decide +kernel
theorem dX9_token_86 : decode cX9_token 86 = .ok (.iconst 1, 1) := by decide +kernel
theorem dX9_token_87 : decode cX9_token 87 = .ok (.isub, 1) := by decide +kernel
theorem dX9_token_88 : decode cX9_token 88 = .ok (.ireturn, 1) := by decide +kernel
set_option maxRecDepth 20000 in
theorem ggX9_centroid_X9_areAllowed : GoodIn wsX9_centroid wsX9_areAllowed := goodIn_r _ [9, 10, 11, 8, 12, 13, 14] (by decide +kernel) (by decide +kernel)
set_option maxRecDepth 20000 in
theorem gX9_centroid_X9_areAllowed : GoodIn wsX9_centroid (va_wsS RX9 126 yX9_areAllowed wsX9_areAllowed) := goodIn_app (goodIn_of _ (by decide +kernel)) ggX9_centroid_X9_areAllowed
set_option maxRecDepth 20000 in
theorem ggX9_centroid_X0_centroidRow : GoodIn wsX9_centroid wsX0_centroidRow := goodIn_r _ [19, 20, 75, 76, 77, 78, 79, 80] (by decide +kernel) (by decide +kernel)
set_option maxRecDepth 20000 in
theorem gX9_centroid_X0_centroidRow : GoodIn wsX9_centroid (wsV RX9 143 RX0 yX0_centroidRow wsX0_centroidRow) := goodIn_app (goodIn_of _ (by decide +kernel)) ggX9_centroid_X0_centroidRow
set_option maxRecDepth 20000 in
theorem ggX9_centroid_X7_isFull : GoodIn wsX9_centroid wsX7_isFull := goodIn_r _ [25, 26, 27, 81, 82, 83] (by decide +kernel) (by decide +kernel)
set_option maxRecDepth 20000 in
theorem gX9_centroid_X7_isFull : GoodIn wsX9_centroid (wsV RX9 136 RX7 yX7_isFull wsX7_isFull) := goodIn_app (goodIn_of _ (by decide +kernel)) ggX9_centroid_X7_isFull
set_option maxRecDepth 20000 in
theorem ggX9_centroid_X9_forgetAllLists : GoodIn wsX9_centroid wsX9_forgetAllLists := goodIn_r _ [31, 32, 33, 34, 8, 35, 36, 37, 38, 39, 40, 41, 42, 43, 44, 45, 46, 47, 48, 49, 50, 51, 52, 53, 54, 55, 56, 57, 58, 59, 60, 66, 67, 68, 69, 70, 71, 72, 73, 74, 84, 85, 86, 87, 88, 89, 90, 91, 92, 93, 94, 95] (by decide +kernel) (by decide +kernel)
set_option maxRecDepth 20000 in
theorem gX9_centroid_X9_forgetAllLists : GoodIn wsX9_centroid (wsV RX9 83 RX9 yX9_forgetAllLists wsX9_forgetAllLists) := goodIn_app (goodIn_of _ (by decide +kernel)) ggX9_centroid_X9_forgetAllLists
set_option maxRecDepth 20000 in
theorem ggX9_centroid_X7_add : GoodIn wsX9_centroid wsX7_add := goodIn_r _ [64, 26, 27, 65, 81, 82, 83] (by decide +kernel) (by decide +kernel)
set_option maxRecDepth 20000 in
theorem gX9_centroid_X7_add : GoodIn wsX9_centroid (wsV RX9 139 RX7 yX7_add wsX7_add) := goodIn_app (goodIn_of _ (by decide +kernel)) ggX9_centroid_X7_add
theorem dX9_centroid_0 : decode cX9_centroid 0 = .ok (.fload_n 1, 1) := by decide +kernel
theorem dX9_centroid_1 : decode cX9_centroid 1 = .ok (.fload_n 2, 1) := by decide +kernel
theorem dX9_centroid_2 : decode cX9_centroid 2 = .ok (.fload_n 3, 1) := by decide +kernel
theorem dX9_centroid_3 : decode cX9_centroid 3 = .ok (.fload 4, 2) := by decide +kernel
theorem dX9_centroid_5 : decode cX9_centroid 5 = .ok (.invokestatic 126, 3) := by decide +kernel
theorem dX9_centroid_8 : decode cX9_centroid 8 = .ok (.ifCond .ne 13, 3) := by decide +kernel
theorem dX9_centroid_11 : decode cX9_centroid 11 = .ok (.new 115, 3) := by decide +kernel
theorem dX9_centroid_14 : decode cX9_centroid 14 = .ok (.dup, 1) := by decide +kernel
theorem dX9_centroid_15 : decode cX9_centroid 15 = .ok (.ldc 130, 2) := by decide +kernel
theorem dX9_centroid_17 : decode cX9_centroid 17 = .ok (.invokespecial 119, 3) := by decide +kernel
theorem dX9_centroid_20 : decode cX9_centroid 20 = .ok (.athrow, 1) := by decide +kernel
theorem dX9_centroid_21 : decode cX9_centroid 21 = .ok (.aload_n 0, 1) := by decide +kernel
theorem dX9_centroid_22 : decode cX9_centroid 22 = .ok (.getfield 12, 3) := by decide +kernel
theorem dX9_centroid_25 : decode cX9_centroid 25 = .ok (.invokevirtual 143, 3) := by decide +kernel
theorem dX9_centroid_28 : decode cX9_centroid 28 = .ok (.invokevirtual 136, 3) := by decide +kernel
theorem dX9_centroid_31 : decode cX9_centroid 31 = .ok (.ifCond .eq 13, 3) := by decide +kernel
theorem dX9_centroid_34 : decode cX9_centroid 34 = .ok (.new 76, 3) := by decide +kernel
theorem dX9_centroid_37 : decode cX9_centroid 37 = .ok (.dup, 1) := by decide +kernel
theorem dX9_centroid_38 : decode cX9_centroid 38 = .ok (.ldc 147, 2) := by decide +kernel
theorem dX9_centroid_40 : decode cX9_centroid 40 = .ok (.invokespecial 80, 3) := by decide +kernel
theorem dX9_centroid_43 : decode cX9_centroid 43 = .ok (.athrow, 1) := by decide +kernel
theorem dX9_centroid_44 : decode cX9_centroid 44 = .ok (.aload_n 0, 1) := by decide +kernel
theorem dX9_centroid_45 : decode cX9_centroid 45 = .ok (.invokevirtual 83, 3) := by decide +kernel
theorem dX9_centroid_48 : decode cX9_centroid 48 = .ok (.aload_n 0, 1) := by decide +kernel
theorem dX9_centroid_49 : decode cX9_centroid 49 = .ok (.getfield 12, 3) := by decide +kernel
theorem dX9_centroid_52 : decode cX9_centroid 52 = .ok (.invokevirtual 143, 3) := by decide +kernel
theorem dX9_centroid_55 : decode cX9_centroid 55 = .ok (.fload_n 1, 1) := by decide +kernel
theorem dX9_centroid_56 : decode cX9_centroid 56 = .ok (.fload_n 2, 1) := by decide +kernel
theorem dX9_centroid_57 : decode cX9_centroid 57 = .ok (.fload_n 3, 1) := by decide +kernel
theorem dX9_centroid_58 : decode cX9_centroid 58 = .ok (.fload 4, 2) := by decide +kernel
theorem dX9_centroid_60 : decode cX9_centroid 60 = .ok (.invokevirtual 139, 3) := by decide +kernel
theorem dX9_centroid_63 : decode cX9_centroid 63 = .ok (.iconst 1, 1) := by decide +kernel
theorem dX9_centroid_64 : decode cX9_centroid 64 = .ok (.isub, 1) := by decide +kernel
theorem dX9_centroid_65 : decode cX9_centroid 65 = .ok (.ireturn, 1) := by decide +kernel
set_option maxRecDepth 20000 in
theorem ggX9_clear_X6_empty : GoodIn wsX9_clear wsX6_empty := goodIn_r _ [8, 9, 59, 60, 61] (by decide +kernel) (by decide +kernel)
set_option maxRecDepth 20000 in
theorem gX9_clear_X6_empty : GoodIn wsX9_clear (wsV RX9 149 RX6 yX6_empty wsX6_empty) := goodIn_app (goodIn_of _ (by decide +kernel)) ggX9_clear_X6_empty
set_option maxRecDepth 20000 in
theorem ggX9_clear_X7_empty : GoodIn wsX9_clear wsX7_empty := goodIn_r _ [14, 15, 62, 63, 64] (by decide +kernel) (by decide +kernel)
set_option maxRecDepth 20000 in
theorem gX9_clear_X7_empty : GoodIn wsX9_clear (wsV RX9 152 RX7 yX7_empty wsX7_empty) := goodIn_app (goodIn_of _ (by decide +kernel)) ggX9_clear_X7_empty
set_option maxRecDepth 20000 in
theorem ggX9_clear_X9_forgetAllLists : GoodIn wsX9_clear wsX9_forgetAllLists := goodIn_r _ [20, 21, 22, 23, 19, 24, 25, 26, 27, 28, 29, 30, 31, 32, 33, 34, 35, 36, 37, 38, 39, 40, 41, 42, 43, 44, 45, 46, 47, 48, 49, 50, 51, 52, 53, 54, 55, 56, 57, 58, 65, 66, 67, 68, 69, 70, 71, 72, 73, 74, 75, 76] (by decide +kernel) (by decide +kernel)
set_option maxRecDepth 20000 in
theorem gX9_clear_X9_forgetAllLists : GoodIn wsX9_clear (wsV RX9 83 RX9 yX9_forgetAllLists wsX9_forgetAllLists) := goodIn_app (goodIn_of _ (by decide +kernel)) ggX9_clear_X9_forgetAllLists
theorem dX9_clear_0 : decode cX9_clear 0 = .ok (.aload_n 0, 1) := by decide +kernel
theorem dX9_clear_1 : decode cX9_clear 1 = .ok (.getfield 19, 3) := by decide +kernel
theorem dX9_clear_4 : decode cX9_clear 4 = .ok (.invokevirtual 149, 3) := by decide +kernel
theorem dX9_clear_7 : decode cX9_clear 7 = .ok (.aload_n 0, 1) := by decide +kernel
theorem dX9_clear_8 : decode cX9_clear 8 = .ok (.getfield 23, 3) := by decide +kernel
theorem dX9_clear_11 : decode cX9_clear 11 = .ok (.invokevirtual 149, 3) := by decide +kernel
theorem dX9_clear_14 : decode cX9_clear 14 = .ok (.aload_n 0, 1) := by decide +kernel
theorem dX9_clear_15 : decode cX9_clear 15 = .ok (.getfield 31, 3) := by decide +kernel
theorem dX9_clear_18 : decode cX9_clear 18 = .ok (.invokevirtual 152, 3) := by decide +kernel
theorem dX9_clear_21 : decode cX9_clear 21 = .ok (.aload_n 0, 1) := by decide +kernel
theorem dX9_clear_22 : decode cX9_clear 22 = .ok (.invokevirtual 83, 3) := by decide +kernel
theorem dX9_clear_25 : decode cX9_clear 25 = .ok (.return_, 1) := by decide +kernel
set_option maxRecDepth 20000 in
theorem ggX9_word_X9_isTerm : GoodIn wsX9_word wsX9_isTerm := goodIn_r _ [11] (by decide +kernel) (by decide +kernel)
set_option maxRecDepth 20000 in
theorem gX9_word_X9_isTerm : GoodIn wsX9_word (va_wsS RX9 94 yX9_isTerm wsX9_isTerm) := goodIn_app (goodIn_of _ (by decide +kernel)) ggX9_word_X9_isTerm
set_option maxRecDepth 20000 in
theorem ggX9_word_X6_holds : GoodIn wsX9_word wsX6_holds := goodIn_r _ [16, 17, 18, 66, 67, 68] (by decide +kernel) (by decide +kernel)
set_option maxRecDepth 20000 in
theorem gX9_word_X6_holds : GoodIn wsX9_word (wsV RX9 155 RX6 yX6_holds wsX6_holds) := goodIn_app (goodIn_of _ (by decide +kernel)) ggX9_word_X6_holds
set_option maxRecDepth 20000 in
theorem ggX9_word_X6_isFull : GoodIn wsX9_word wsX6_isFull := goodIn_r _ [22, 17, 66, 67, 68] (by decide +kernel) (by decide +kernel)
set_option maxRecDepth 20000 in
theorem gX9_word_X6_isFull : GoodIn wsX9_word (wsV RX9 158 RX6 yX6_isFull wsX6_isFull) := goodIn_app (goodIn_of _ (by decide +kernel)) ggX9_word_X6_isFull
set_option maxRecDepth 20000 in
theorem ggX9_word_X9_forgetList : GoodIn wsX9_word wsX9_forgetList := goodIn_r _ [26, 27, 28, 29, 30, 31, 32, 33, 34, 35, 36, 37, 38, 39, 40, 41, 42, 43, 44, 45, 46, 47, 48, 49, 50, 51, 57, 58, 59, 60, 61, 62, 63, 64, 65, 69, 70, 71, 72, 73, 74, 75, 76, 77, 78, 79, 80] (by decide +kernel) (by decide +kernel)
set_option maxRecDepth 20000 in
theorem gX9_word_X9_forgetList : GoodIn wsX9_word (wsV RX9 161 RX9 yX9_forgetList wsX9_forgetList) := goodIn_app (goodIn_of _ (by decide +kernel)) ggX9_word_X9_forgetList
set_option maxRecDepth 20000 in
theorem ggX9_word_X6_add : GoodIn wsX9_word wsX6_add := goodIn_r _ [55, 17, 18, 56, 66, 67, 68] (by decide +kernel) (by decide +kernel)
set_option maxRecDepth 20000 in
theorem gX9_word_X6_add : GoodIn wsX9_word (wsV RX9 164 RX6 yX6_add wsX6_add) := goodIn_app (goodIn_of _ (by decide +kernel)) ggX9_word_X6_add
theorem dX9_word_0 : decode cX9_word 0 = .ok (.iload_n 1, 1) := by decide +kernel
theorem dX9_word_1 : decode cX9_word 1 = .ok (.invokestatic 94, 3) := by decide +kernel
theorem dX9_word_4 : decode cX9_word 4 = .ok (.ifCond .ne 13, 3) := by decide +kernel
theorem dX9_word_7 : decode cX9_word 7 = .ok (.new 97, 3) := by decide +kernel
theorem dX9_word_10 : decode cX9_word 10 = .ok (.dup, 1) := by decide +kernel
theorem dX9_word_11 : decode cX9_word 11 = .ok (.ldc 153, 2) := by decide +kernel
theorem dX9_word_13 : decode cX9_word 13 = .ok (.invokespecial 101, 3) := by decide +kernel
theorem dX9_word_16 : decode cX9_word 16 = .ok (.athrow, 1) := by decide +kernel
theorem dX9_word_17 : decode cX9_word 17 = .ok (.aload_n 0, 1) := by decide +kernel
theorem dX9_word_18 : decode cX9_word 18 = .ok (.getfield 19, 3) := by decide +kernel
theorem dX9_word_21 : decode cX9_word 21 = .ok (.iload_n 1, 1) := by decide +kernel
theorem dX9_word_22 : decode cX9_word 22 = .ok (.invokevirtual 155, 3) := by decide +kernel
theorem dX9_word_25 : decode cX9_word 25 = .ok (.ifCond .eq 13, 3) := by decide +kernel
theorem dX9_word_28 : decode cX9_word 28 = .ok (.new 115, 3) := by decide +kernel
theorem dX9_word_31 : decode cX9_word 31 = .ok (.dup, 1) := by decide +kernel
theorem dX9_word_32 : decode cX9_word 32 = .ok (.ldc 156, 2) := by decide +kernel
theorem dX9_word_34 : decode cX9_word 34 = .ok (.invokespecial 119, 3) := by decide +kernel
theorem dX9_word_37 : decode cX9_word 37 = .ok (.athrow, 1) := by decide +kernel
theorem dX9_word_38 : decode cX9_word 38 = .ok (.aload_n 0, 1) := by decide +kernel
theorem dX9_word_39 : decode cX9_word 39 = .ok (.getfield 19, 3) := by decide +kernel
theorem dX9_word_42 : decode cX9_word 42 = .ok (.invokevirtual 158, 3) := by decide +kernel
theorem dX9_word_45 : decode cX9_word 45 = .ok (.ifCond .eq 13, 3) := by decide +kernel
theorem dX9_word_48 : decode cX9_word 48 = .ok (.new 76, 3) := by decide +kernel
theorem dX9_word_51 : decode cX9_word 51 = .ok (.dup, 1) := by decide +kernel
theorem dX9_word_52 : decode cX9_word 52 = .ok (.ldc 159, 2) := by decide +kernel
theorem dX9_word_54 : decode cX9_word 54 = .ok (.invokespecial 80, 3) := by decide +kernel
theorem dX9_word_57 : decode cX9_word 57 = .ok (.athrow, 1) := by decide +kernel
theorem dX9_word_58 : decode cX9_word 58 = .ok (.aload_n 0, 1) := by decide +kernel
theorem dX9_word_59 : decode cX9_word 59 = .ok (.iconst 0, 1) := by decide +kernel
theorem dX9_word_60 : decode cX9_word 60 = .ok (.invokevirtual 161, 3) := by decide +kernel
theorem dX9_word_63 : decode cX9_word 63 = .ok (.aload_n 0, 1) := by decide +kernel
theorem dX9_word_64 : decode cX9_word 64 = .ok (.getfield 19, 3) := by decide +kernel
theorem dX9_word_67 : decode cX9_word 67 = .ok (.iload_n 1, 1) := by decide +kernel
theorem dX9_word_68 : decode cX9_word 68 = .ok (.iconst 1, 1) := by decide +kernel
theorem dX9_word_69 : decode cX9_word 69 = .ok (.invokevirtual 164, 3) := by decide +kernel
theorem dX9_word_72 : decode cX9_word 72 = .ok (.ireturn, 1) := by decide +kernel
set_option maxRecDepth 20000 in
theorem ggX9_impact_X9_isTerm : GoodIn wsX9_impact wsX9_isTerm := goodIn_r _ [11] (by decide +kernel) (by decide +kernel)
set_option maxRecDepth 20000 in
theorem gX9_impact_X9_isTerm : GoodIn wsX9_impact (va_wsS RX9 94 yX9_isTerm wsX9_isTerm) := goodIn_app (goodIn_of _ (by decide +kernel)) ggX9_impact_X9_isTerm
set_option maxRecDepth 20000 in
theorem ggX9_impact_X6_holds : GoodIn wsX9_impact wsX6_holds := goodIn_r _ [16, 17, 18, 66, 67, 68] (by decide +kernel) (by decide +kernel)
set_option maxRecDepth 20000 in
theorem gX9_impact_X6_holds : GoodIn wsX9_impact (wsV RX9 155 RX6 yX6_holds wsX6_holds) := goodIn_app (goodIn_of _ (by decide +kernel)) ggX9_impact_X6_holds
set_option maxRecDepth 20000 in
theorem ggX9_impact_X6_isFull : GoodIn wsX9_impact wsX6_isFull := goodIn_r _ [22, 17, 66, 67, 68] (by decide +kernel) (by decide +kernel)
set_option maxRecDepth 20000 in
theorem gX9_impact_X6_isFull : GoodIn wsX9_impact (wsV RX9 158 RX6 yX6_isFull wsX6_isFull) := goodIn_app (goodIn_of _ (by decide +kernel)) ggX9_impact_X6_isFull
set_option maxRecDepth 20000 in
theorem ggX9_impact_X9_forgetList : GoodIn wsX9_impact wsX9_forgetList := goodIn_r _ [26, 27, 28, 29, 30, 31, 32, 33, 34, 35, 36, 37, 38, 39, 40, 41, 42, 43, 44, 45, 46, 47, 48, 49, 50, 51, 57, 58, 59, 60, 61, 62, 63, 64, 65, 69, 70, 71, 72, 73, 74, 75, 76, 77, 78, 79, 80] (by decide +kernel) (by decide +kernel)
set_option maxRecDepth 20000 in
theorem gX9_impact_X9_forgetList : GoodIn wsX9_impact (wsV RX9 161 RX9 yX9_forgetList wsX9_forgetList) := goodIn_app (goodIn_of _ (by decide +kernel)) ggX9_impact_X9_forgetList
set_option maxRecDepth 20000 in
theorem ggX9_impact_X6_add : GoodIn wsX9_impact wsX6_add := goodIn_r _ [55, 17, 18, 56, 66, 67, 68] (by decide +kernel) (by decide +kernel)
set_option maxRecDepth 20000 in
theorem gX9_impact_X6_add : GoodIn wsX9_impact (wsV RX9 164 RX6 yX6_add wsX6_add) := goodIn_app (goodIn_of _ (by decide +kernel)) ggX9_impact_X6_add
theorem dX9_impact_0 : decode cX9_impact 0 = .ok (.iload_n 1, 1) := by decide +kernel
theorem dX9_impact_1 : decode cX9_impact 1 = .ok (.invokestatic 94, 3) := by decide +kernel
theorem dX9_impact_4 : decode cX9_impact 4 = .ok (.ifCond .ne 13, 3) := by decide +kernel
theorem dX9_impact_7 : decode cX9_impact 7 = .ok (.new 97, 3) := by decide +kernel
theorem dX9_impact_10 : decode cX9_impact 10 = .ok (.dup, 1) := by decide +kernel
theorem dX9_impact_11 : decode cX9_impact 11 = .ok (.ldc 153, 2) := by decide +kernel
theorem dX9_impact_13 : decode cX9_impact 13 = .ok (.invokespecial 101, 3) := by decide +kernel
theorem dX9_impact_16 : decode cX9_impact 16 = .ok (.athrow, 1) := by decide +kernel
theorem dX9_impact_17 : decode cX9_impact 17 = .ok (.aload_n 0, 1) := by decide +kernel
theorem dX9_impact_18 : decode cX9_impact 18 = .ok (.getfield 23, 3) := by decide +kernel
theorem dX9_impact_21 : decode cX9_impact 21 = .ok (.iload_n 1, 1) := by decide +kernel
theorem dX9_impact_22 : decode cX9_impact 22 = .ok (.invokevirtual 155, 3) := by decide +kernel
theorem dX9_impact_25 : decode cX9_impact 25 = .ok (.ifCond .ne 14, 3) := by decide +kernel
theorem dX9_impact_28 : decode cX9_impact 28 = .ok (.iload_n 2, 1) := by decide +kernel
theorem dX9_impact_29 : decode cX9_impact 29 = .ok (.iconst 1, 1) := by decide +kernel
theorem dX9_impact_30 : decode cX9_impact 30 = .ok (.if_icmp .lt 9, 3) := by decide +kernel
theorem dX9_impact_33 : decode cX9_impact 33 = .ok (.iload_n 2, 1) := by decide +kernel
theorem dX9_impact_34 : decode cX9_impact 34 = .ok (.bipush 100, 2) := by decide +kernel
theorem dX9_impact_36 : decode cX9_impact 36 = .ok (.if_icmp .le 13, 3) := by decide +kernel
theorem dX9_impact_39 : decode cX9_impact 39 = .ok (.new 115, 3) := by decide +kernel
theorem dX9_impact_42 : decode cX9_impact 42 = .ok (.dup, 1) := by decide +kernel
theorem dX9_impact_43 : decode cX9_impact 43 = .ok (.ldc 166, 2) := by decide +kernel
theorem dX9_impact_45 : decode cX9_impact 45 = .ok (.invokespecial 119, 3) := by decide +kernel
theorem dX9_impact_48 : decode cX9_impact 48 = .ok (.athrow, 1) := by decide +kernel
theorem dX9_impact_49 : decode cX9_impact 49 = .ok (.aload_n 0, 1) := by decide +kernel
theorem dX9_impact_50 : decode cX9_impact 50 = .ok (.getfield 23, 3) := by decide +kernel
theorem dX9_impact_53 : decode cX9_impact 53 = .ok (.invokevirtual 158, 3) := by decide +kernel
theorem dX9_impact_56 : decode cX9_impact 56 = .ok (.ifCond .eq 13, 3) := by decide +kernel
theorem dX9_impact_59 : decode cX9_impact 59 = .ok (.new 76, 3) := by decide +kernel
theorem dX9_impact_62 : decode cX9_impact 62 = .ok (.dup, 1) := by decide +kernel
theorem dX9_impact_63 : decode cX9_impact 63 = .ok (.ldc 168, 2) := by decide +kernel
theorem dX9_impact_65 : decode cX9_impact 65 = .ok (.invokespecial 80, 3) := by decide +kernel
theorem dX9_impact_68 : decode cX9_impact 68 = .ok (.athrow, 1) := by decide +kernel
theorem dX9_impact_69 : decode cX9_impact 69 = .ok (.aload_n 0, 1) := by decide +kernel
theorem dX9_impact_70 : decode cX9_impact 70 = .ok (.iconst 1, 1) := by decide +kernel
theorem dX9_impact_71 : decode cX9_impact 71 = .ok (.invokevirtual 161, 3) := by decide +kernel
theorem dX9_impact_74 : decode cX9_impact 74 = .ok (.aload_n 0, 1) := by decide +kernel
theorem dX9_impact_75 : decode cX9_impact 75 = .ok (.getfield 23, 3) := by decide +kernel
theorem dX9_impact_78 : decode cX9_impact 78 = .ok (.iload_n 1, 1) := by decide +kernel
theorem dX9_impact_79 : decode cX9_impact 79 = .ok (.iload_n 2, 1) := by decide +kernel
theorem dX9_impact_80 : decode cX9_impact 80 = .ok (.invokevirtual 164, 3) := by decide +kernel
theorem dX9_impact_83 : decode cX9_impact 83 = .ok (.ireturn, 1) := by decide +kernel
set_option maxRecDepth 20000 in
theorem ggX9_vector_X9_areAllowed : GoodIn wsX9_vector wsX9_areAllowed := goodIn_r _ [9, 10, 11, 8, 12, 13, 14] (by decide +kernel) (by decide +kernel)
set_option maxRecDepth 20000 in
theorem gX9_vector_X9_areAllowed : GoodIn wsX9_vector (va_wsS RX9 126 yX9_areAllowed wsX9_areAllowed) := goodIn_app (goodIn_of _ (by decide +kernel)) ggX9_vector_X9_areAllowed
set_option maxRecDepth 20000 in
theorem ggX9_vector_X7_isFull : GoodIn wsX9_vector wsX7_isFull := goodIn_r _ [19, 20, 21, 65, 66, 67] (by decide +kernel) (by decide +kernel)
set_option maxRecDepth 20000 in
theorem gX9_vector_X7_isFull : GoodIn wsX9_vector (wsV RX9 136 RX7 yX7_isFull wsX7_isFull) := goodIn_app (goodIn_of _ (by decide +kernel)) ggX9_vector_X7_isFull
set_option maxRecDepth 20000 in
theorem ggX9_vector_X9_forgetList : GoodIn wsX9_vector wsX9_forgetList := goodIn_r _ [25, 26, 27, 28, 29, 30, 31, 32, 33, 34, 35, 36, 37, 38, 39, 40, 41, 42, 43, 44, 45, 46, 47, 48, 49, 50, 56, 57, 58, 59, 60, 61, 62, 63, 64, 68, 69, 70, 71, 72, 73, 74, 75, 76, 77, 78, 79] (by decide +kernel) (by decide +kernel)
set_option maxRecDepth 20000 in
theorem gX9_vector_X9_forgetList : GoodIn wsX9_vector (wsV RX9 161 RX9 yX9_forgetList wsX9_forgetList) := goodIn_app (goodIn_of _ (by decide +kernel)) ggX9_vector_X9_forgetList
set_option maxRecDepth 20000 in
theorem ggX9_vector_X7_add : GoodIn wsX9_vector wsX7_add := goodIn_r _ [54, 20, 21, 55, 65, 66, 67] (by decide +kernel) (by decide +kernel)
set_option maxRecDepth 20000 in
theorem gX9_vector_X7_add : GoodIn wsX9_vector (wsV RX9 139 RX7 yX7_add wsX7_add) := goodIn_app (goodIn_of _ (by decide +kernel)) ggX9_vector_X7_add
theorem dX9_vector_0 : decode cX9_vector 0 = .ok (.fload_n 1, 1) := by decide +kernel
theorem dX9_vector_1 : decode cX9_vector 1 = .ok (.fload_n 2, 1) := by decide +kernel
theorem dX9_vector_2 : decode cX9_vector 2 = .ok (.fload_n 3, 1) := by decide +kernel
theorem dX9_vector_3 : decode cX9_vector 3 = .ok (.fload 4, 2) := by decide +kernel
theorem dX9_vector_5 : decode cX9_vector 5 = .ok (.invokestatic 126, 3) := by decide +kernel
theorem dX9_vector_8 : decode cX9_vector 8 = .ok (.ifCond .ne 13, 3) := by decide +kernel
theorem dX9_vector_11 : decode cX9_vector 11 = .ok (.new 115, 3) := by decide +kernel
theorem dX9_vector_14 : decode cX9_vector 14 = .ok (.dup, 1) := by decide +kernel
theorem dX9_vector_15 : decode cX9_vector 15 = .ok (.ldc 130, 2) := by decide +kernel
theorem dX9_vector_17 : decode cX9_vector 17 = .ok (.invokespecial 119, 3) := by decide +kernel
theorem dX9_vector_20 : decode cX9_vector 20 = .ok (.athrow, 1) := by decide +kernel
theorem dX9_vector_21 : decode cX9_vector 21 = .ok (.aload_n 0, 1) := by decide +kernel
theorem dX9_vector_22 : decode cX9_vector 22 = .ok (.getfield 31, 3) := by decide +kernel
theorem dX9_vector_25 : decode cX9_vector 25 = .ok (.invokevirtual 136, 3) := by decide +kernel
theorem dX9_vector_28 : decode cX9_vector 28 = .ok (.ifCond .eq 13, 3) := by decide +kernel
theorem dX9_vector_31 : decode cX9_vector 31 = .ok (.new 76, 3) := by decide +kernel
theorem dX9_vector_34 : decode cX9_vector 34 = .ok (.dup, 1) := by decide +kernel
theorem dX9_vector_35 : decode cX9_vector 35 = .ok (.ldc 170, 2) := by decide +kernel
theorem dX9_vector_37 : decode cX9_vector 37 = .ok (.invokespecial 80, 3) := by decide +kernel
theorem dX9_vector_40 : decode cX9_vector 40 = .ok (.athrow, 1) := by decide +kernel
theorem dX9_vector_41 : decode cX9_vector 41 = .ok (.aload_n 0, 1) := by decide +kernel
theorem dX9_vector_42 : decode cX9_vector 42 = .ok (.iconst 2, 1) := by decide +kernel
theorem dX9_vector_43 : decode cX9_vector 43 = .ok (.invokevirtual 161, 3) := by decide +kernel
theorem dX9_vector_46 : decode cX9_vector 46 = .ok (.aload_n 0, 1) := by decide +kernel
theorem dX9_vector_47 : decode cX9_vector 47 = .ok (.getfield 31, 3) := by decide +kernel
theorem dX9_vector_50 : decode cX9_vector 50 = .ok (.fload_n 1, 1) := by decide +kernel
theorem dX9_vector_51 : decode cX9_vector 51 = .ok (.fload_n 2, 1) := by decide +kernel
theorem dX9_vector_52 : decode cX9_vector 52 = .ok (.fload_n 3, 1) := by decide +kernel
theorem dX9_vector_53 : decode cX9_vector 53 = .ok (.fload 4, 2) := by decide +kernel
theorem dX9_vector_55 : decode cX9_vector 55 = .ok (.invokevirtual 139, 3) := by decide +kernel
theorem dX9_vector_58 : decode cX9_vector 58 = .ok (.ireturn, 1) := by decide +kernel
set_option maxRecDepth 20000 in
theorem ggX9_search_X9_isView : GoodIn wsX9_search wsX9_isView := goodIn_r _ [10] (by decide +kernel) (by decide +kernel)
set_option maxRecDepth 20000 in
theorem gX9_search_X9_isView : GoodIn wsX9_search (va_wsS RX9 172 yX9_isView wsX9_isView) := goodIn_app (goodIn_of _ (by decide +kernel)) ggX9_search_X9_isView
set_option maxRecDepth 20000 in
theorem ggX9_search_X9_isMadeHow : GoodIn wsX9_search wsX9_isMadeHow := goodIn_r _ [13] (by decide +kernel) (by decide +kernel)
set_option maxRecDepth 20000 in
theorem gX9_search_X9_isMadeHow : GoodIn wsX9_search (va_wsS RX9 175 yX9_isMadeHow wsX9_isMadeHow) := goodIn_app (goodIn_of _ (by decide +kernel)) ggX9_search_X9_isMadeHow
set_option maxRecDepth 20000 in
theorem ggX9_search_X0_centroidRow : GoodIn wsX9_search wsX0_centroidRow := goodIn_r _ [18, 19, 284, 285, 286, 287, 288, 289] (by decide +kernel) (by decide +kernel)
set_option maxRecDepth 20000 in
theorem gX9_search_X0_centroidRow : GoodIn wsX9_search (wsV RX9 143 RX0 yX0_centroidRow wsX0_centroidRow) := goodIn_app (goodIn_of _ (by decide +kernel)) ggX9_search_X0_centroidRow
set_option maxRecDepth 20000 in
theorem ggX9_search_X7_size : GoodIn wsX9_search wsX7_size := goodIn_r _ [24, 25, 290, 291, 292] (by decide +kernel) (by decide +kernel)
set_option maxRecDepth 20000 in
theorem gX9_search_X7_size : GoodIn wsX9_search (wsV RX9 183 RX7 yX7_size wsX7_size) := goodIn_app (goodIn_of _ (by decide +kernel)) ggX9_search_X7_size
set_option maxRecDepth 20000 in
theorem ggX9_search_X1_forget : GoodIn wsX9_search wsX1_forget := goodIn_r _ [30, 31, 32, 33, 34, 35, 36, 37, 38, 39, 40, 41, 42, 293, 294, 295, 296, 297, 298, 299] (by decide +kernel) (by decide +kernel)
set_option maxRecDepth 20000 in
theorem gX9_search_X1_forget : GoodIn wsX9_search (wsV RX9 188 RX1 yX1_forget wsX1_forget) := goodIn_app (goodIn_of _ (by decide +kernel)) ggX9_search_X1_forget
set_option maxRecDepth 20000 in
theorem ggX9_search_X9_makeList : GoodIn wsX9_search wsX9_makeList := goodIn_r _ [46, 47, 48, 49, 50, 51, 9, 52, 53, 54, 5, 55, 56, 57, 58, 59, 60, 61, 62, 63, 64, 65, 66, 21, 22, 23, 24, 25, 67, 15, 16, 17, 18, 19, 68, 69, 70, 71, 72, 73, 74, 75, 76, 77, 78, 79, 80, 81, 82, 83, 84, 85, 86, 87, 88, 89, 90, 91, 92, 93, 94, 95, 96, 97, 98, 99, 100, 101, 102, 103, 104, 105, 106, 107, 108, 109, 110, 111, 112, 113, 114, 115, 116, 117, 118, 119, 120, 121, 122, 123, 124, 125, 126, 127, 128, 129, 130, 131, 132, 133, 134, 135, 136, 137, 138, 139, 140, 141, 142, 143, 144, 145, 146, 147, 148, 149, 150, 151, 152, 153, 154, 155, 156, 157, 158, 159, 160, 161, 162, 163, 164, 165, 166, 167, 33, 34, 35, 36, 37, 38, 39, 40, 41, 42, 168, 169, 170, 171, 172, 173, 174, 175, 176, 177, 178, 179, 180, 181, 182, 183, 184, 185, 186, 187, 188, 189, 190, 191, 192, 193, 194, 195, 196, 197, 198, 199, 200, 201, 202, 203, 204, 205, 206, 207, 208, 209, 210, 211, 212, 213, 214, 215, 216, 217, 218, 219, 220, 221, 222, 223, 224, 225, 226, 227, 228, 229, 230, 231, 232, 233, 234, 235, 236, 237, 238, 239, 240, 241, 242, 243, 244, 245, 246, 247, 248, 249, 250, 251, 252, 253, 254, 255, 256, 257, 258, 259, 260, 261, 262, 263, 264, 265, 266, 267, 268, 269, 270, 271, 272, 273, 274, 275, 276, 277, 278, 279, 280, 281, 282, 283, 300, 301, 302, 303, 290, 291, 292, 284, 285, 286, 287, 288, 289, 304, 305, 306, 307, 308, 309, 310, 311, 312, 313, 314, 296, 297, 298, 299] (by decide +kernel) (by decide +kernel)
set_option maxRecDepth 20000 in
theorem gX9_search_X9_makeList : GoodIn wsX9_search (wsV RX9 191 RX9 yX9_makeList wsX9_makeList) := goodIn_app (goodIn_of _ (by decide +kernel)) ggX9_search_X9_makeList
theorem dX9_search_0 : decode cX9_search 0 = .ok (.iload_n 1, 1) := by decide +kernel
theorem dX9_search_1 : decode cX9_search 1 = .ok (.invokestatic 172, 3) := by decide +kernel
theorem dX9_search_4 : decode cX9_search 4 = .ok (.ifCond .eq 11, 3) := by decide +kernel
theorem dX9_search_7 : decode cX9_search 7 = .ok (.iload_n 1, 1) := by decide +kernel
theorem dX9_search_8 : decode cX9_search 8 = .ok (.iload_n 2, 1) := by decide +kernel
theorem dX9_search_9 : decode cX9_search 9 = .ok (.invokestatic 175, 3) := by decide +kernel
theorem dX9_search_12 : decode cX9_search 12 = .ok (.ifCond .ne 13, 3) := by decide +kernel
theorem dX9_search_15 : decode cX9_search 15 = .ok (.new 115, 3) := by decide +kernel
theorem dX9_search_18 : decode cX9_search 18 = .ok (.dup, 1) := by decide +kernel
theorem dX9_search_19 : decode cX9_search 19 = .ok (.ldc 179, 2) := by decide +kernel
theorem dX9_search_21 : decode cX9_search 21 = .ok (.invokespecial 119, 3) := by decide +kernel
theorem dX9_search_24 : decode cX9_search 24 = .ok (.athrow, 1) := by decide +kernel
theorem dX9_search_25 : decode cX9_search 25 = .ok (.iload_n 3, 1) := by decide +kernel
theorem dX9_search_26 : decode cX9_search 26 = .ok (.ifCond .lt 21, 3) := by decide +kernel
theorem dX9_search_29 : decode cX9_search 29 = .ok (.iload_n 3, 1) := by decide +kernel
theorem dX9_search_30 : decode cX9_search 30 = .ok (.bipush 20, 2) := by decide +kernel
theorem dX9_search_32 : decode cX9_search 32 = .ok (.if_icmp .gt 15, 3) := by decide +kernel
theorem dX9_search_35 : decode cX9_search 35 = .ok (.iload 4, 2) := by decide +kernel
theorem dX9_search_37 : decode cX9_search 37 = .ok (.iconst 1, 1) := by decide +kernel
theorem dX9_search_38 : decode cX9_search 38 = .ok (.if_icmp .lt 9, 3) := by decide +kernel
theorem dX9_search_41 : decode cX9_search 41 = .ok (.iload 4, 2) := by decide +kernel
theorem dX9_search_43 : decode cX9_search 43 = .ok (.iconst 3, 1) := by decide +kernel
theorem dX9_search_44 : decode cX9_search 44 = .ok (.if_icmp .le 13, 3) := by decide +kernel
theorem dX9_search_47 : decode cX9_search 47 = .ok (.new 115, 3) := by decide +kernel
theorem dX9_search_50 : decode cX9_search 50 = .ok (.dup, 1) := by decide +kernel
theorem dX9_search_51 : decode cX9_search 51 = .ok (.ldc 181, 2) := by decide +kernel
theorem dX9_search_53 : decode cX9_search 53 = .ok (.invokespecial 119, 3) := by decide +kernel
theorem dX9_search_56 : decode cX9_search 56 = .ok (.athrow, 1) := by decide +kernel
theorem dX9_search_57 : decode cX9_search 57 = .ok (.iload_n 2, 1) := by decide +kernel
theorem dX9_search_58 : decode cX9_search 58 = .ok (.iconst 2, 1) := by decide +kernel
theorem dX9_search_59 : decode cX9_search 59 = .ok (.if_icmp .ne 26, 3) := by decide +kernel
theorem dX9_search_62 : decode cX9_search 62 = .ok (.aload_n 0, 1) := by decide +kernel
theorem dX9_search_63 : decode cX9_search 63 = .ok (.getfield 12, 3) := by decide +kernel
theorem dX9_search_66 : decode cX9_search 66 = .ok (.invokevirtual 143, 3) := by decide +kernel
theorem dX9_search_69 : decode cX9_search 69 = .ok (.invokevirtual 183, 3) := by decide +kernel
theorem dX9_search_72 : decode cX9_search 72 = .ok (.ifCond .ne 13, 3) := by decide +kernel
theorem dX9_search_75 : decode cX9_search 75 = .ok (.new 76, 3) := by decide +kernel
theorem dX9_search_78 : decode cX9_search 78 = .ok (.dup, 1) := by decide +kernel
theorem dX9_search_79 : decode cX9_search 79 = .ok (.ldc 186, 2) := by decide +kernel
theorem dX9_search_81 : decode cX9_search 81 = .ok (.invokespecial 80, 3) := by decide +kernel
theorem dX9_search_84 : decode cX9_search 84 = .ok (.athrow, 1) := by decide +kernel
theorem dX9_search_85 : decode cX9_search 85 = .ok (.aload_n 0, 1) := by decide +kernel
theorem dX9_search_86 : decode cX9_search 86 = .ok (.getfield 68, 3) := by decide +kernel
theorem dX9_search_89 : decode cX9_search 89 = .ok (.invokevirtual 188, 3) := by decide +kernel
theorem dX9_search_92 : decode cX9_search 92 = .ok (.aload_n 0, 1) := by decide +kernel
theorem dX9_search_93 : decode cX9_search 93 = .ok (.iload_n 1, 1) := by decide +kernel
theorem dX9_search_94 : decode cX9_search 94 = .ok (.iload_n 2, 1) := by decide +kernel
theorem dX9_search_95 : decode cX9_search 95 = .ok (.iload_n 3, 1) := by decide +kernel
theorem dX9_search_96 : decode cX9_search 96 = .ok (.iload 4, 2) := by decide +kernel
theorem dX9_search_98 : decode cX9_search 98 = .ok (.invokevirtual 191, 3) := by decide +kernel
theorem dX9_search_101 : decode cX9_search 101 = .ok (.ireturn, 1) := by decide +kernel
set_option maxRecDepth 20000 in
theorem ggX9_hit_X9_listWithPlace : GoodIn wsX9_hit wsX9_listWithPlace := goodIn_ca (goodIn_ca (goodIn_ca (goodIn_r _ [5, 6, 7, 8, 9, 10, 4, 11, 12, 13, 14, 15, 16, 17, 18, 19, 20, 21, 22, 23, 24, 25, 26, 27, 28, 29, 30, 31, 32, 33, 34, 35, 36, 42, 43, 44, 45, 46, 47, 48, 49, 50, 51, 52, 53, 54, 55, 56, 57, 58, 59] (by decide +kernel) (by decide +kernel)) (goodIn_sub (fun _ h => List.mem_cons_of_mem _ (List.mem_append_left _ (List.mem_append_left _ (List.mem_append_right _ h)))) (by decide +kernel))) (goodIn_sub (fun _ h => List.mem_cons_of_mem _ (List.mem_append_left _ (List.mem_append_right _ h))) (by decide +kernel))) (goodIn_sub (fun _ h => List.mem_cons_of_mem _ (List.mem_append_right _ h)) (by decide +kernel))
set_option maxRecDepth 20000 in
theorem gX9_hit_X9_listWithPlace : GoodIn wsX9_hit (wsV RX9 195 RX9 yX9_listWithPlace wsX9_listWithPlace) := goodIn_app (goodIn_of _ (by decide +kernel)) ggX9_hit_X9_listWithPlace
set_option maxRecDepth 20000 in
theorem ggX9_hit_X2_ranking : GoodIn wsX9_hit wsX2_ranking := goodIn_r _ [29, 30, 51, 52, 53, 54, 55] (by decide +kernel) (by decide +kernel)
set_option maxRecDepth 20000 in
theorem gX9_hit_X2_ranking : GoodIn wsX9_hit (wsV RX9 199 RX2 yX2_ranking wsX2_ranking) := goodIn_app (goodIn_of _ (by decide +kernel)) ggX9_hit_X2_ranking
set_option maxRecDepth 20000 in
theorem ggX9_hit_X4_documentAt : GoodIn wsX9_hit wsX4_documentAt := goodIn_r _ [40, 41, 56, 57, 58, 59] (by decide +kernel) (by decide +kernel)
set_option maxRecDepth 20000 in
theorem gX9_hit_X4_documentAt : GoodIn wsX9_hit (wsV RX9 203 RX4 yX4_documentAt wsX4_documentAt) := goodIn_app (goodIn_of _ (by decide +kernel)) ggX9_hit_X4_documentAt
theorem dX9_hit_0 : decode cX9_hit 0 = .ok (.aload_n 0, 1) := by decide +kernel
theorem dX9_hit_1 : decode cX9_hit 1 = .ok (.iload_n 1, 1) := by decide +kernel
theorem dX9_hit_2 : decode cX9_hit 2 = .ok (.iload_n 2, 1) := by decide +kernel
theorem dX9_hit_3 : decode cX9_hit 3 = .ok (.invokevirtual 195, 3) := by decide +kernel
theorem dX9_hit_6 : decode cX9_hit 6 = .ok (.invokevirtual 199, 3) := by decide +kernel
theorem dX9_hit_9 : decode cX9_hit 9 = .ok (.iload_n 2, 1) := by decide +kernel
theorem dX9_hit_10 : decode cX9_hit 10 = .ok (.invokevirtual 203, 3) := by decide +kernel
theorem dX9_hit_13 : decode cX9_hit 13 = .ok (.ireturn, 1) := by decide +kernel
set_option maxRecDepth 20000 in
theorem ggX9_score_X9_listWithPlace : GoodIn wsX9_score wsX9_listWithPlace := goodIn_ca (goodIn_ca (goodIn_ca (goodIn_r _ [5, 6, 7, 8, 9, 10, 4, 11, 12, 13, 14, 15, 16, 17, 18, 19, 20, 21, 22, 23, 24, 25, 26, 27, 28, 29, 30, 31, 32, 33, 34, 35, 36, 42, 43, 44, 45, 46, 47, 48, 49, 50, 51, 52, 53, 54, 55, 56, 57, 58, 59] (by decide +kernel) (by decide +kernel)) (goodIn_sub (fun _ h => List.mem_cons_of_mem _ (List.mem_append_left _ (List.mem_append_left _ (List.mem_append_right _ h)))) (by decide +kernel))) (goodIn_sub (fun _ h => List.mem_cons_of_mem _ (List.mem_append_left _ (List.mem_append_right _ h))) (by decide +kernel))) (goodIn_sub (fun _ h => List.mem_cons_of_mem _ (List.mem_append_right _ h)) (by decide +kernel))
set_option maxRecDepth 20000 in
theorem gX9_score_X9_listWithPlace : GoodIn wsX9_score (wsV RX9 195 RX9 yX9_listWithPlace wsX9_listWithPlace) := goodIn_app (goodIn_of _ (by decide +kernel)) ggX9_score_X9_listWithPlace
set_option maxRecDepth 20000 in
theorem ggX9_score_X2_ranking : GoodIn wsX9_score wsX2_ranking := goodIn_r _ [29, 30, 51, 52, 53, 54, 55] (by decide +kernel) (by decide +kernel)
set_option maxRecDepth 20000 in
theorem gX9_score_X2_ranking : GoodIn wsX9_score (wsV RX9 199 RX2 yX2_ranking wsX2_ranking) := goodIn_app (goodIn_of _ (by decide +kernel)) ggX9_score_X2_ranking
set_option maxRecDepth 20000 in
theorem ggX9_score_X4_scoreAt : GoodIn wsX9_score wsX4_scoreAt := goodIn_r _ [40, 41, 56, 57, 58, 59] (by decide +kernel) (by decide +kernel)
set_option maxRecDepth 20000 in
theorem gX9_score_X4_scoreAt : GoodIn wsX9_score (wsV RX9 207 RX4 yX4_scoreAt wsX4_scoreAt) := goodIn_app (goodIn_of _ (by decide +kernel)) ggX9_score_X4_scoreAt
theorem dX9_score_0 : decode cX9_score 0 = .ok (.aload_n 0, 1) := by decide +kernel
theorem dX9_score_1 : decode cX9_score 1 = .ok (.iload_n 1, 1) := by decide +kernel
theorem dX9_score_2 : decode cX9_score 2 = .ok (.iload_n 2, 1) := by decide +kernel
theorem dX9_score_3 : decode cX9_score 3 = .ok (.invokevirtual 195, 3) := by decide +kernel
theorem dX9_score_6 : decode cX9_score 6 = .ok (.invokevirtual 199, 3) := by decide +kernel
theorem dX9_score_9 : decode cX9_score 9 = .ok (.iload_n 2, 1) := by decide +kernel
theorem dX9_score_10 : decode cX9_score 10 = .ok (.invokevirtual 207, 3) := by decide +kernel
theorem dX9_score_13 : decode cX9_score 13 = .ok (.dreturn, 1) := by decide +kernel
set_option maxRecDepth 20000 in
theorem ggX9_work_X9_madeList : GoodIn wsX9_work wsX9_madeList := goodIn_ca (goodIn_ca (goodIn_r _ [7, 1, 2, 8, 9, 10, 11, 12, 6, 13, 14, 15, 16, 17, 18, 19, 35, 36, 37, 38, 39, 40, 41, 42, 43, 44, 45, 46, 47, 48] (by decide +kernel) (by decide +kernel)) (goodIn_sub (fun _ h => List.mem_cons_of_mem _ (List.mem_append_left _ (List.mem_append_right _ h))) (by decide +kernel))) (goodIn_sub (fun _ h => List.mem_cons_of_mem _ (List.mem_append_right _ h)) (by decide +kernel))
set_option maxRecDepth 20000 in
theorem gX9_work_X9_madeList : GoodIn wsX9_work (wsV RX9 213 RX9 yX9_madeList wsX9_madeList) := goodIn_app (goodIn_of _ (by decide +kernel)) ggX9_work_X9_madeList
set_option maxRecDepth 20000 in
theorem ggX9_work_X2_scored : GoodIn wsX9_work wsX2_scored := goodIn_r _ [23, 24, 44, 45, 46, 47, 48] (by decide +kernel) (by decide +kernel)
set_option maxRecDepth 20000 in
theorem gX9_work_X2_scored : GoodIn wsX9_work (wsV RX9 217 RX2 yX2_scored wsX2_scored) := goodIn_app (goodIn_of _ (by decide +kernel)) ggX9_work_X2_scored
set_option maxRecDepth 20000 in
theorem ggX9_work_X2_skipped : GoodIn wsX9_work wsX2_skipped := goodIn_r _ [28, 29, 44, 45, 46, 47, 48] (by decide +kernel) (by decide +kernel)
set_option maxRecDepth 20000 in
theorem gX9_work_X2_skipped : GoodIn wsX9_work (wsV RX9 220 RX2 yX2_skipped wsX2_skipped) := goodIn_app (goodIn_of _ (by decide +kernel)) ggX9_work_X2_skipped
set_option maxRecDepth 20000 in
theorem ggX9_work_X2_passed : GoodIn wsX9_work wsX2_passed := goodIn_r _ [33, 34, 44, 45, 46, 47, 48] (by decide +kernel) (by decide +kernel)
set_option maxRecDepth 20000 in
theorem gX9_work_X2_passed : GoodIn wsX9_work (wsV RX9 223 RX2 yX2_passed wsX2_passed) := goodIn_app (goodIn_of _ (by decide +kernel)) ggX9_work_X2_passed
theorem dX9_work_0 : decode cX9_work 0 = .ok (.iload_n 2, 1) := by decide +kernel
theorem dX9_work_1 : decode cX9_work 1 = .ok (.ifCond .eq 23, 3) := by decide +kernel
theorem dX9_work_4 : decode cX9_work 4 = .ok (.iload_n 2, 1) := by decide +kernel
theorem dX9_work_5 : decode cX9_work 5 = .ok (.iconst 1, 1) := by decide +kernel
theorem dX9_work_6 : decode cX9_work 6 = .ok (.if_icmp .eq 18, 3) := by decide +kernel
theorem dX9_work_9 : decode cX9_work 9 = .ok (.iload_n 2, 1) := by decide +kernel
theorem dX9_work_10 : decode cX9_work 10 = .ok (.iconst 2, 1) := by decide +kernel
theorem dX9_work_11 : decode cX9_work 11 = .ok (.if_icmp .eq 13, 3) := by decide +kernel
theorem dX9_work_14 : decode cX9_work 14 = .ok (.new 115, 3) := by decide +kernel
theorem dX9_work_17 : decode cX9_work 17 = .ok (.dup, 1) := by decide +kernel
theorem dX9_work_18 : decode cX9_work 18 = .ok (.ldc 211, 2) := by decide +kernel
theorem dX9_work_20 : decode cX9_work 20 = .ok (.invokespecial 119, 3) := by decide +kernel
theorem dX9_work_23 : decode cX9_work 23 = .ok (.athrow, 1) := by decide +kernel
theorem dX9_work_24 : decode cX9_work 24 = .ok (.aload_n 0, 1) := by decide +kernel
theorem dX9_work_25 : decode cX9_work 25 = .ok (.iload_n 1, 1) := by decide +kernel
theorem dX9_work_26 : decode cX9_work 26 = .ok (.invokevirtual 213, 3) := by decide +kernel
theorem dX9_work_29 : decode cX9_work 29 = .ok (.astore_n 3, 1) := by decide +kernel
theorem dX9_work_30 : decode cX9_work 30 = .ok (.iload_n 2, 1) := by decide +kernel
theorem dX9_work_31 : decode cX9_work 31 = .ok (.lookupswitch 35 #[(0, 25), (1, 30)], 25) := by decide +kernel
theorem dX9_work_56 : decode cX9_work 56 = .ok (.aload_n 3, 1) := by decide +kernel
theorem dX9_work_57 : decode cX9_work 57 = .ok (.invokevirtual 217, 3) := by decide +kernel
theorem dX9_work_60 : decode cX9_work 60 = .ok (.ireturn, 1) := by decide +kernel
theorem dX9_work_61 : decode cX9_work 61 = .ok (.aload_n 3, 1) := by decide +kernel
theorem dX9_work_62 : decode cX9_work 62 = .ok (.invokevirtual 220, 3) := by decide +kernel
theorem dX9_work_65 : decode cX9_work 65 = .ok (.ireturn, 1) := by decide +kernel
theorem dX9_work_66 : decode cX9_work 66 = .ok (.aload_n 3, 1) := by decide +kernel
theorem dX9_work_67 : decode cX9_work 67 = .ok (.invokevirtual 223, 3) := by decide +kernel
theorem dX9_work_70 : decode cX9_work 70 = .ok (.ireturn, 1) := by decide +kernel
set_option maxRecDepth 20000 in
theorem ggX9_fuse_X9_isAnyListMade : GoodIn wsX9_fuse wsX9_isAnyListMade := goodIn_r _ [11, 6, 12, 13, 14, 15, 16, 17, 72, 73, 74, 75, 76, 77, 78, 79, 80, 81, 82, 83, 84, 85] (by decide +kernel) (by decide +kernel)
set_option maxRecDepth 20000 in
theorem gX9_fuse_X9_isAnyListMade : GoodIn wsX9_fuse (wsV RX9 228 RX9 yX9_isAnyListMade wsX9_isAnyListMade) := goodIn_app (goodIn_of _ (by decide +kernel)) ggX9_fuse_X9_isAnyListMade
set_option maxRecDepth 20000 in
theorem ggX9_fuse_X1_make : GoodIn wsX9_fuse wsX1_make := goodIn_r _ [22, 23, 24, 25, 26, 13, 14, 15, 16, 17, 27, 28, 29, 30, 31, 32, 33, 34, 21, 35, 36, 37, 38, 39, 40, 41, 42, 43, 44, 45, 46, 47, 48, 49, 50, 51, 52, 53, 54, 55, 56, 57, 58, 59, 60, 61, 62, 63, 64, 65, 66, 67, 68, 69, 70, 71, 86, 87, 88, 81, 82, 83, 84, 85, 89, 90, 91, 92] (by decide +kernel) (by decide +kernel)
set_option maxRecDepth 20000 in
theorem gX9_fuse_X1_make : GoodIn wsX9_fuse (wsV RX9 233 RX1 yX1_make wsX1_make) := goodIn_app (goodIn_of _ (by decide +kernel)) ggX9_fuse_X1_make
theorem dX9_fuse_0 : decode cX9_fuse 0 = .ok (.iload_n 1, 1) := by decide +kernel
theorem dX9_fuse_1 : decode cX9_fuse 1 = .ok (.ifCond .eq 23, 3) := by decide +kernel
theorem dX9_fuse_4 : decode cX9_fuse 4 = .ok (.iload_n 1, 1) := by decide +kernel
theorem dX9_fuse_5 : decode cX9_fuse 5 = .ok (.iconst 1, 1) := by decide +kernel
theorem dX9_fuse_6 : decode cX9_fuse 6 = .ok (.if_icmp .eq 18, 3) := by decide +kernel
theorem dX9_fuse_9 : decode cX9_fuse 9 = .ok (.iload_n 1, 1) := by decide +kernel
theorem dX9_fuse_10 : decode cX9_fuse 10 = .ok (.iconst 2, 1) := by decide +kernel
theorem dX9_fuse_11 : decode cX9_fuse 11 = .ok (.if_icmp .eq 13, 3) := by decide +kernel
theorem dX9_fuse_14 : decode cX9_fuse 14 = .ok (.new 115, 3) := by decide +kernel
theorem dX9_fuse_17 : decode cX9_fuse 17 = .ok (.dup, 1) := by decide +kernel
theorem dX9_fuse_18 : decode cX9_fuse 18 = .ok (.ldc 226, 2) := by decide +kernel
theorem dX9_fuse_20 : decode cX9_fuse 20 = .ok (.invokespecial 119, 3) := by decide +kernel
theorem dX9_fuse_23 : decode cX9_fuse 23 = .ok (.athrow, 1) := by decide +kernel
theorem dX9_fuse_24 : decode cX9_fuse 24 = .ok (.aload_n 0, 1) := by decide +kernel
theorem dX9_fuse_25 : decode cX9_fuse 25 = .ok (.invokevirtual 228, 3) := by decide +kernel
theorem dX9_fuse_28 : decode cX9_fuse 28 = .ok (.ifCond .ne 13, 3) := by decide +kernel
theorem dX9_fuse_31 : decode cX9_fuse 31 = .ok (.new 76, 3) := by decide +kernel
theorem dX9_fuse_34 : decode cX9_fuse 34 = .ok (.dup, 1) := by decide +kernel
theorem dX9_fuse_35 : decode cX9_fuse 35 = .ok (.ldc 231, 2) := by decide +kernel
theorem dX9_fuse_37 : decode cX9_fuse 37 = .ok (.invokespecial 80, 3) := by decide +kernel
theorem dX9_fuse_40 : decode cX9_fuse 40 = .ok (.athrow, 1) := by decide +kernel
theorem dX9_fuse_41 : decode cX9_fuse 41 = .ok (.aload_n 0, 1) := by decide +kernel
theorem dX9_fuse_42 : decode cX9_fuse 42 = .ok (.getfield 68, 3) := by decide +kernel
theorem dX9_fuse_45 : decode cX9_fuse 45 = .ok (.aload_n 0, 1) := by decide +kernel
theorem dX9_fuse_46 : decode cX9_fuse 46 = .ok (.getfield 60, 3) := by decide +kernel
theorem dX9_fuse_49 : decode cX9_fuse 49 = .ok (.iload_n 1, 1) := by decide +kernel
theorem dX9_fuse_50 : decode cX9_fuse 50 = .ok (.invokevirtual 233, 3) := by decide +kernel
theorem dX9_fuse_53 : decode cX9_fuse 53 = .ok (.ireturn, 1) := by decide +kernel
set_option maxRecDepth 20000 in
theorem ggX9_fused_X1_ranking : GoodIn wsX9_fused wsX1_ranking := goodIn_r _ [8, 9, 30, 31, 32] (by decide +kernel) (by decide +kernel)
set_option maxRecDepth 20000 in
theorem gX9_fused_X1_ranking : GoodIn wsX9_fused (wsV RX9 237 RX1 yX1_ranking wsX1_ranking) := goodIn_app (goodIn_of _ (by decide +kernel)) ggX9_fused_X1_ranking
set_option maxRecDepth 20000 in
theorem ggX9_fused_X4_holdsPlace : GoodIn wsX9_fused wsX4_holdsPlace := goodIn_r _ [14, 15, 33, 34, 35, 36] (by decide +kernel) (by decide +kernel)
set_option maxRecDepth 20000 in
theorem gX9_fused_X4_holdsPlace : GoodIn wsX9_fused (wsV RX9 238 RX4 yX4_holdsPlace wsX4_holdsPlace) := goodIn_app (goodIn_of _ (by decide +kernel)) ggX9_fused_X4_holdsPlace
set_option maxRecDepth 20000 in
theorem ggX9_fused_X4_documentAt : GoodIn wsX9_fused wsX4_documentAt := goodIn_r _ [19, 20, 33, 34, 35, 36] (by decide +kernel) (by decide +kernel)
set_option maxRecDepth 20000 in
theorem gX9_fused_X4_documentAt : GoodIn wsX9_fused (wsV RX9 203 RX4 yX4_documentAt wsX4_documentAt) := goodIn_app (goodIn_of _ (by decide +kernel)) ggX9_fused_X4_documentAt
theorem dX9_fused_0 : decode cX9_fused 0 = .ok (.aload_n 0, 1) := by decide +kernel
theorem dX9_fused_1 : decode cX9_fused 1 = .ok (.getfield 68, 3) := by decide +kernel
theorem dX9_fused_4 : decode cX9_fused 4 = .ok (.invokevirtual 237, 3) := by decide +kernel
theorem dX9_fused_7 : decode cX9_fused 7 = .ok (.iload_n 1, 1) := by decide +kernel
theorem dX9_fused_8 : decode cX9_fused 8 = .ok (.invokevirtual 238, 3) := by decide +kernel
theorem dX9_fused_11 : decode cX9_fused 11 = .ok (.ifCond .ne 13, 3) := by decide +kernel
theorem dX9_fused_14 : decode cX9_fused 14 = .ok (.new 97, 3) := by decide +kernel
theorem dX9_fused_17 : decode cX9_fused 17 = .ok (.dup, 1) := by decide +kernel
theorem dX9_fused_18 : decode cX9_fused 18 = .ok (.ldc 241, 2) := by decide +kernel
theorem dX9_fused_20 : decode cX9_fused 20 = .ok (.invokespecial 101, 3) := by decide +kernel
theorem dX9_fused_23 : decode cX9_fused 23 = .ok (.athrow, 1) := by decide +kernel
theorem dX9_fused_24 : decode cX9_fused 24 = .ok (.aload_n 0, 1) := by decide +kernel
theorem dX9_fused_25 : decode cX9_fused 25 = .ok (.getfield 68, 3) := by decide +kernel
theorem dX9_fused_28 : decode cX9_fused 28 = .ok (.invokevirtual 237, 3) := by decide +kernel
theorem dX9_fused_31 : decode cX9_fused 31 = .ok (.iload_n 1, 1) := by decide +kernel
theorem dX9_fused_32 : decode cX9_fused 32 = .ok (.invokevirtual 203, 3) := by decide +kernel
theorem dX9_fused_35 : decode cX9_fused 35 = .ok (.ireturn, 1) := by decide +kernel
set_option maxRecDepth 20000 in
theorem ggX9_rating_X1_ranking : GoodIn wsX9_rating wsX1_ranking := goodIn_r _ [8, 9, 30, 31, 32] (by decide +kernel) (by decide +kernel)
set_option maxRecDepth 20000 in
theorem gX9_rating_X1_ranking : GoodIn wsX9_rating (wsV RX9 237 RX1 yX1_ranking wsX1_ranking) := goodIn_app (goodIn_of _ (by decide +kernel)) ggX9_rating_X1_ranking
set_option maxRecDepth 20000 in
theorem ggX9_rating_X4_holdsPlace : GoodIn wsX9_rating wsX4_holdsPlace := goodIn_r _ [14, 15, 33, 34, 35, 36] (by decide +kernel) (by decide +kernel)
set_option maxRecDepth 20000 in
theorem gX9_rating_X4_holdsPlace : GoodIn wsX9_rating (wsV RX9 238 RX4 yX4_holdsPlace wsX4_holdsPlace) := goodIn_app (goodIn_of _ (by decide +kernel)) ggX9_rating_X4_holdsPlace
set_option maxRecDepth 20000 in
theorem ggX9_rating_X4_scoreAt : GoodIn wsX9_rating wsX4_scoreAt := goodIn_r _ [19, 20, 33, 34, 35, 36] (by decide +kernel) (by decide +kernel)
set_option maxRecDepth 20000 in
theorem gX9_rating_X4_scoreAt : GoodIn wsX9_rating (wsV RX9 207 RX4 yX4_scoreAt wsX4_scoreAt) := goodIn_app (goodIn_of _ (by decide +kernel)) ggX9_rating_X4_scoreAt
theorem dX9_rating_0 : decode cX9_rating 0 = .ok (.aload_n 0, 1) := by decide +kernel
theorem dX9_rating_1 : decode cX9_rating 1 = .ok (.getfield 68, 3) := by decide +kernel
theorem dX9_rating_4 : decode cX9_rating 4 = .ok (.invokevirtual 237, 3) := by decide +kernel
theorem dX9_rating_7 : decode cX9_rating 7 = .ok (.iload_n 1, 1) := by decide +kernel
theorem dX9_rating_8 : decode cX9_rating 8 = .ok (.invokevirtual 238, 3) := by decide +kernel
theorem dX9_rating_11 : decode cX9_rating 11 = .ok (.ifCond .ne 13, 3) := by decide +kernel
theorem dX9_rating_14 : decode cX9_rating 14 = .ok (.new 97, 3) := by decide +kernel
theorem dX9_rating_17 : decode cX9_rating 17 = .ok (.dup, 1) := by decide +kernel
theorem dX9_rating_18 : decode cX9_rating 18 = .ok (.ldc 241, 2) := by decide +kernel
theorem dX9_rating_20 : decode cX9_rating 20 = .ok (.invokespecial 101, 3) := by decide +kernel
theorem dX9_rating_23 : decode cX9_rating 23 = .ok (.athrow, 1) := by decide +kernel
theorem dX9_rating_24 : decode cX9_rating 24 = .ok (.aload_n 0, 1) := by decide +kernel
theorem dX9_rating_25 : decode cX9_rating 25 = .ok (.getfield 68, 3) := by decide +kernel
theorem dX9_rating_28 : decode cX9_rating 28 = .ok (.invokevirtual 237, 3) := by decide +kernel
theorem dX9_rating_31 : decode cX9_rating 31 = .ok (.iload_n 1, 1) := by decide +kernel
theorem dX9_rating_32 : decode cX9_rating 32 = .ok (.invokevirtual 207, 3) := by decide +kernel
theorem dX9_rating_35 : decode cX9_rating 35 = .ok (.dreturn, 1) := by decide +kernel
set_option maxRecDepth 20000 in
theorem ggX9_log_X9_logarithm : GoodIn wsX9_log wsX9_logarithm := goodIn_r _ [6, 7, 8] (by decide +kernel) (by decide +kernel)
set_option maxRecDepth 20000 in
theorem gX9_log_X9_logarithm : GoodIn wsX9_log (va_wsS RX9 245 yX9_logarithm wsX9_logarithm) := goodIn_app (goodIn_of _ (by decide +kernel)) ggX9_log_X9_logarithm
theorem dX9_log_0 : decode cX9_log 0 = .ok (.dload_n 1, 1) := by decide +kernel
theorem dX9_log_1 : decode cX9_log 1 = .ok (.dconst 1, 1) := by decide +kernel
theorem dX9_log_2 : decode cX9_log 2 = .ok (.dcmp .l, 1) := by decide +kernel
theorem dX9_log_3 : decode cX9_log 3 = .ok (.ifCond .lt 18, 3) := by decide +kernel
theorem dX9_log_6 : decode cX9_log 6 = .ok (.dload_n 1, 1) := by decide +kernel
theorem dX9_log_7 : decode cX9_log 7 = .ok (.ldc2_w 243, 3) := by decide +kernel
theorem dX9_log_10 : decode cX9_log 10 = .ok (.dcmp .g, 1) := by decide +kernel
theorem dX9_log_11 : decode cX9_log 11 = .ok (.ifCond .gt 10, 3) := by decide +kernel
theorem dX9_log_14 : decode cX9_log 14 = .ok (.dload_n 1, 1) := by decide +kernel
theorem dX9_log_15 : decode cX9_log 15 = .ok (.invokestatic 245, 3) := by decide +kernel
theorem dX9_log_18 : decode cX9_log 18 = .ok (.goto 6, 3) := by decide +kernel
theorem dX9_log_21 : decode cX9_log 21 = .ok (.ldc2_w 249, 3) := by decide +kernel
theorem dX9_log_24 : decode cX9_log 24 = .ok (.dreturn, 1) := by decide +kernel
set_option maxRecDepth 20000 in
theorem ggX9_quantised_X0_holds : GoodIn wsX9_quantised wsX0_holds := goodIn_r _ [8, 9, 36, 37, 38, 39, 40, 41] (by decide +kernel) (by decide +kernel)
set_option maxRecDepth 20000 in
theorem gX9_quantised_X0_holds : GoodIn wsX9_quantised (wsV RX9 90 RX0 yX0_holds wsX0_holds) := goodIn_app (goodIn_of _ (by decide +kernel)) ggX9_quantised_X0_holds
set_option maxRecDepth 20000 in
theorem ggX9_quantised_X9_isTerm : GoodIn wsX9_quantised wsX9_isTerm := goodIn_r _ [13] (by decide +kernel) (by decide +kernel)
set_option maxRecDepth 20000 in
theorem gX9_quantised_X9_isTerm : GoodIn wsX9_quantised (va_wsS RX9 94 yX9_isTerm wsX9_isTerm) := goodIn_app (goodIn_of _ (by decide +kernel)) ggX9_quantised_X9_isTerm
set_option maxRecDepth 20000 in
theorem ggX9_quantised_X0_greatestWeight : GoodIn wsX9_quantised wsX0_greatestWeight := goodIn_r _ [17, 9, 18, 19, 12, 20, 36, 37, 38, 39, 40, 41] (by decide +kernel) (by decide +kernel)
set_option maxRecDepth 20000 in
theorem gX9_quantised_X0_greatestWeight : GoodIn wsX9_quantised (wsV RX9 251 RX0 yX0_greatestWeight wsX0_greatestWeight) := goodIn_app (goodIn_of _ (by decide +kernel)) ggX9_quantised_X0_greatestWeight
set_option maxRecDepth 20000 in
theorem ggX9_quantised_X0_impactOf : GoodIn wsX9_quantised wsX0_impactOf := goodIn_r _ [24, 18, 25, 26, 36, 37, 38, 39, 40, 41] (by decide +kernel) (by decide +kernel)
set_option maxRecDepth 20000 in
theorem gX9_quantised_X0_impactOf : GoodIn wsX9_quantised (wsV RX9 255 RX0 yX0_impactOf wsX0_impactOf) := goodIn_app (goodIn_of _ (by decide +kernel)) ggX9_quantised_X0_impactOf
theorem dX9_quantised_0 : decode cX9_quantised 0 = .ok (.aload_n 0, 1) := by decide +kernel
theorem dX9_quantised_1 : decode cX9_quantised 1 = .ok (.getfield 12, 3) := by decide +kernel
theorem dX9_quantised_4 : decode cX9_quantised 4 = .ok (.iload_n 1, 1) := by decide +kernel
theorem dX9_quantised_5 : decode cX9_quantised 5 = .ok (.invokevirtual 90, 3) := by decide +kernel
theorem dX9_quantised_8 : decode cX9_quantised 8 = .ok (.ifCond .eq 10, 3) := by decide +kernel
theorem dX9_quantised_11 : decode cX9_quantised 11 = .ok (.iload_n 2, 1) := by decide +kernel
theorem dX9_quantised_12 : decode cX9_quantised 12 = .ok (.invokestatic 94, 3) := by decide +kernel
theorem dX9_quantised_15 : decode cX9_quantised 15 = .ok (.ifCond .ne 13, 3) := by decide +kernel
theorem dX9_quantised_18 : decode cX9_quantised 18 = .ok (.new 97, 3) := by decide +kernel
theorem dX9_quantised_21 : decode cX9_quantised 21 = .ok (.dup, 1) := by decide +kernel
theorem dX9_quantised_22 : decode cX9_quantised 22 = .ok (.ldc 99, 2) := by decide +kernel
theorem dX9_quantised_24 : decode cX9_quantised 24 = .ok (.invokespecial 101, 3) := by decide +kernel
theorem dX9_quantised_27 : decode cX9_quantised 27 = .ok (.athrow, 1) := by decide +kernel
theorem dX9_quantised_28 : decode cX9_quantised 28 = .ok (.aload_n 0, 1) := by decide +kernel
theorem dX9_quantised_29 : decode cX9_quantised 29 = .ok (.getfield 12, 3) := by decide +kernel
theorem dX9_quantised_32 : decode cX9_quantised 32 = .ok (.iload_n 1, 1) := by decide +kernel
theorem dX9_quantised_33 : decode cX9_quantised 33 = .ok (.iload_n 2, 1) := by decide +kernel
theorem dX9_quantised_34 : decode cX9_quantised 34 = .ok (.aload_n 0, 1) := by decide +kernel
theorem dX9_quantised_35 : decode cX9_quantised 35 = .ok (.getfield 12, 3) := by decide +kernel
theorem dX9_quantised_38 : decode cX9_quantised 38 = .ok (.invokevirtual 251, 3) := by decide +kernel
theorem dX9_quantised_41 : decode cX9_quantised 41 = .ok (.invokevirtual 255, 3) := by decide +kernel
theorem dX9_quantised_44 : decode cX9_quantised 44 = .ok (.ireturn, 1) := by decide +kernel
theorem dX9_isTerm_0 : decode cX9_isTerm 0 = .ok (.iload_n 0, 1) := by decide +kernel
theorem dX9_isTerm_1 : decode cX9_isTerm 1 = .ok (.ifCond .lt 13, 3) := by decide +kernel
theorem dX9_isTerm_4 : decode cX9_isTerm 4 = .ok (.iload_n 0, 1) := by decide +kernel
theorem dX9_isTerm_5 : decode cX9_isTerm 5 = .ok (.bipush 12, 2) := by decide +kernel
theorem dX9_isTerm_7 : decode cX9_isTerm 7 = .ok (.if_icmp .ge 7, 3) := by decide +kernel
theorem dX9_isTerm_10 : decode cX9_isTerm 10 = .ok (.iconst 1, 1) := by decide +kernel
theorem dX9_isTerm_11 : decode cX9_isTerm 11 = .ok (.goto 4, 3) := by decide +kernel
theorem dX9_isTerm_14 : decode cX9_isTerm 14 = .ok (.iconst 0, 1) := by decide +kernel
theorem dX9_isTerm_15 : decode cX9_isTerm 15 = .ok (.ireturn, 1) := by decide +kernel
theorem dX9_isView_0 : decode cX9_isView 0 = .ok (.iload_n 0, 1) := by decide +kernel
theorem dX9_isView_1 : decode cX9_isView 1 = .ok (.ifCond .lt 12, 3) := by decide +kernel
theorem dX9_isView_4 : decode cX9_isView 4 = .ok (.iload_n 0, 1) := by decide +kernel
theorem dX9_isView_5 : decode cX9_isView 5 = .ok (.iconst 3, 1) := by decide +kernel
theorem dX9_isView_6 : decode cX9_isView 6 = .ok (.if_icmp .ge 7, 3) := by decide +kernel
theorem dX9_isView_9 : decode cX9_isView 9 = .ok (.iconst 1, 1) := by decide +kernel
theorem dX9_isView_10 : decode cX9_isView 10 = .ok (.goto 4, 3) := by decide +kernel
theorem dX9_isView_13 : decode cX9_isView 13 = .ok (.iconst 0, 1) := by decide +kernel
theorem dX9_isView_14 : decode cX9_isView 14 = .ok (.ireturn, 1) := by decide +kernel
theorem dX9_isMadeHow_0 : decode cX9_isMadeHow 0 = .ok (.iload_n 1, 1) := by decide +kernel
theorem dX9_isMadeHow_1 : decode cX9_isMadeHow 1 = .ok (.ifCond .eq 17, 3) := by decide +kernel
theorem dX9_isMadeHow_4 : decode cX9_isMadeHow 4 = .ok (.iload_n 1, 1) := by decide +kernel
theorem dX9_isMadeHow_5 : decode cX9_isMadeHow 5 = .ok (.iload_n 0, 1) := by decide +kernel
theorem dX9_isMadeHow_6 : decode cX9_isMadeHow 6 = .ok (.iconst 2, 1) := by decide +kernel
theorem dX9_isMadeHow_7 : decode cX9_isMadeHow 7 = .ok (.if_icmp .ne 7, 3) := by decide +kernel
theorem dX9_isMadeHow_10 : decode cX9_isMadeHow 10 = .ok (.iconst 2, 1) := by decide +kernel
theorem dX9_isMadeHow_11 : decode cX9_isMadeHow 11 = .ok (.goto 4, 3) := by decide +kernel
theorem dX9_isMadeHow_14 : decode cX9_isMadeHow 14 = .ok (.iconst 1, 1) := by decide +kernel
theorem dX9_isMadeHow_15 : decode cX9_isMadeHow 15 = .ok (.if_icmp .ne 7, 3) := by decide +kernel
theorem dX9_isMadeHow_18 : decode cX9_isMadeHow 18 = .ok (.iconst 1, 1) := by decide +kernel
theorem dX9_isMadeHow_19 : decode cX9_isMadeHow 19 = .ok (.goto 4, 3) := by decide +kernel
theorem dX9_isMadeHow_22 : decode cX9_isMadeHow 22 = .ok (.iconst 0, 1) := by decide +kernel
theorem dX9_isMadeHow_23 : decode cX9_isMadeHow 23 = .ok (.ireturn, 1) := by decide +kernel
theorem dX9_isAllowed_0 : decode cX9_isAllowed 0 = .ok (.fload_n 0, 1) := by decide +kernel
theorem dX9_isAllowed_1 : decode cX9_isAllowed 1 = .ok (.ldc_w 259, 3) := by decide +kernel
theorem dX9_isAllowed_4 : decode cX9_isAllowed 4 = .ok (.fcmp .l, 1) := by decide +kernel
theorem dX9_isAllowed_5 : decode cX9_isAllowed 5 = .ok (.ifCond .lt 15, 3) := by decide +kernel
theorem dX9_isAllowed_8 : decode cX9_isAllowed 8 = .ok (.fload_n 0, 1) := by decide +kernel
theorem dX9_isAllowed_9 : decode cX9_isAllowed 9 = .ok (.ldc_w 260, 3) := by decide +kernel
theorem dX9_isAllowed_12 : decode cX9_isAllowed 12 = .ok (.fcmp .g, 1) := by decide +kernel
theorem dX9_isAllowed_13 : decode cX9_isAllowed 13 = .ok (.ifCond .gt 7, 3) := by decide +kernel
theorem dX9_isAllowed_16 : decode cX9_isAllowed 16 = .ok (.iconst 1, 1) := by decide +kernel
theorem dX9_isAllowed_17 : decode cX9_isAllowed 17 = .ok (.goto 4, 3) := by decide +kernel
theorem dX9_isAllowed_20 : decode cX9_isAllowed 20 = .ok (.iconst 0, 1) := by decide +kernel
theorem dX9_isAllowed_21 : decode cX9_isAllowed 21 = .ok (.ireturn, 1) := by decide +kernel
set_option maxRecDepth 20000 in
theorem ggX9_areAllowed_X9_isAllowed : GoodIn wsX9_areAllowed wsX9_isAllowed := goodIn_r _ [4, 5, 6] (by decide +kernel) (by decide +kernel)
set_option maxRecDepth 20000 in
theorem gX9_areAllowed_X9_isAllowed : GoodIn wsX9_areAllowed (va_wsS RX9 111 yX9_isAllowed wsX9_isAllowed) := goodIn_app (goodIn_of _ (by decide +kernel)) ggX9_areAllowed_X9_isAllowed
theorem dX9_areAllowed_0 : decode cX9_areAllowed 0 = .ok (.fload_n 0, 1) := by decide +kernel
theorem dX9_areAllowed_1 : decode cX9_areAllowed 1 = .ok (.invokestatic 111, 3) := by decide +kernel
theorem dX9_areAllowed_4 : decode cX9_areAllowed 4 = .ok (.ifCond .eq 28, 3) := by decide +kernel
theorem dX9_areAllowed_7 : decode cX9_areAllowed 7 = .ok (.fload_n 1, 1) := by decide +kernel
theorem dX9_areAllowed_8 : decode cX9_areAllowed 8 = .ok (.invokestatic 111, 3) := by decide +kernel
theorem dX9_areAllowed_11 : decode cX9_areAllowed 11 = .ok (.ifCond .eq 21, 3) := by decide +kernel
theorem dX9_areAllowed_14 : decode cX9_areAllowed 14 = .ok (.fload_n 2, 1) := by decide +kernel
theorem dX9_areAllowed_15 : decode cX9_areAllowed 15 = .ok (.invokestatic 111, 3) := by decide +kernel
theorem dX9_areAllowed_18 : decode cX9_areAllowed 18 = .ok (.ifCond .eq 14, 3) := by decide +kernel
theorem dX9_areAllowed_21 : decode cX9_areAllowed 21 = .ok (.fload_n 3, 1) := by decide +kernel
theorem dX9_areAllowed_22 : decode cX9_areAllowed 22 = .ok (.invokestatic 111, 3) := by decide +kernel
theorem dX9_areAllowed_25 : decode cX9_areAllowed 25 = .ok (.ifCond .eq 7, 3) := by decide +kernel
theorem dX9_areAllowed_28 : decode cX9_areAllowed 28 = .ok (.iconst 1, 1) := by decide +kernel
theorem dX9_areAllowed_29 : decode cX9_areAllowed 29 = .ok (.goto 4, 3) := by decide +kernel
theorem dX9_areAllowed_32 : decode cX9_areAllowed 32 = .ok (.iconst 0, 1) := by decide +kernel
theorem dX9_areAllowed_33 : decode cX9_areAllowed 33 = .ok (.ireturn, 1) := by decide +kernel
set_option maxRecDepth 20000 in
theorem ggX9_forgetAllLists_X9_forgetList : GoodIn wsX9_forgetAllLists wsX9_forgetList := goodIn_r _ [5, 6, 7, 8, 9, 10, 11, 12, 13, 14, 15, 16, 17, 18, 19, 20, 21, 22, 23, 24, 25, 26, 27, 28, 29, 30, 31, 32, 33, 34, 35, 36, 37, 38, 39, 40, 41, 42, 43, 44, 45, 46, 47, 48, 49, 50, 51] (by decide +kernel) (by decide +kernel)
set_option maxRecDepth 20000 in
theorem gX9_forgetAllLists_X9_forgetList : GoodIn wsX9_forgetAllLists (wsV RX9 161 RX9 yX9_forgetList wsX9_forgetList) := goodIn_app (goodIn_of _ (by decide +kernel)) ggX9_forgetAllLists_X9_forgetList
theorem dX9_forgetAllLists_0 : decode cX9_forgetAllLists 0 = .ok (.iconst 0, 1) := by decide +kernel
theorem dX9_forgetAllLists_1 : decode cX9_forgetAllLists 1 = .ok (.istore_n 1, 1) := by decide +kernel
theorem dX9_forgetAllLists_2 : decode cX9_forgetAllLists 2 = .ok (.iload_n 1, 1) := by decide +kernel
theorem dX9_forgetAllLists_3 : decode cX9_forgetAllLists 3 = .ok (.iconst 3, 1) := by decide +kernel
theorem dX9_forgetAllLists_4 : decode cX9_forgetAllLists 4 = .ok (.if_icmp .ge 14, 3) := by decide +kernel
theorem dX9_forgetAllLists_7 : decode cX9_forgetAllLists 7 = .ok (.aload_n 0, 1) := by decide +kernel
theorem dX9_forgetAllLists_8 : decode cX9_forgetAllLists 8 = .ok (.iload_n 1, 1) := by decide +kernel
theorem dX9_forgetAllLists_9 : decode cX9_forgetAllLists 9 = .ok (.invokevirtual 161, 3) := by decide +kernel
theorem dX9_forgetAllLists_12 : decode cX9_forgetAllLists 12 = .ok (.iinc 1 1, 3) := by decide +kernel
theorem dX9_forgetAllLists_15 : decode cX9_forgetAllLists 15 = .ok (.goto (-13), 3) := by decide +kernel
theorem dX9_forgetAllLists_18 : decode cX9_forgetAllLists 18 = .ok (.return_, 1) := by decide +kernel
set_option maxRecDepth 20000 in
theorem ggX9_forgetList_X2_forget : GoodIn wsX9_forgetList wsX2_forget := goodIn_r _ [7, 8, 35, 36, 37, 38, 39] (by decide +kernel) (by decide +kernel)
set_option maxRecDepth 20000 in
theorem gX9_forgetList_X2_forget : GoodIn wsX9_forgetList (wsV RX9 261 RX2 yX2_forget wsX2_forget) := goodIn_app (goodIn_of _ (by decide +kernel)) ggX9_forgetList_X2_forget
set_option maxRecDepth 20000 in
theorem ggX9_forgetList_X1_forget : GoodIn wsX9_forgetList wsX1_forget := goodIn_r _ [13, 14, 15, 16, 17, 18, 19, 20, 21, 22, 23, 24, 25, 40, 41, 42, 43, 44, 45, 46] (by decide +kernel) (by decide +kernel)
set_option maxRecDepth 20000 in
theorem gX9_forgetList_X1_forget : GoodIn wsX9_forgetList (wsV RX9 188 RX1 yX1_forget wsX1_forget) := goodIn_app (goodIn_of _ (by decide +kernel)) ggX9_forgetList_X1_forget
theorem dX9_forgetList_0 : decode cX9_forgetList 0 = .ok (.aload_n 0, 1) := by decide +kernel
theorem dX9_forgetList_1 : decode cX9_forgetList 1 = .ok (.getfield 60, 3) := by decide +kernel
theorem dX9_forgetList_4 : decode cX9_forgetList 4 = .ok (.iload_n 1, 1) := by decide +kernel
theorem dX9_forgetList_5 : decode cX9_forgetList 5 = .ok (.aaload, 1) := by decide +kernel
theorem dX9_forgetList_6 : decode cX9_forgetList 6 = .ok (.invokevirtual 261, 3) := by decide +kernel
theorem dX9_forgetList_9 : decode cX9_forgetList 9 = .ok (.aload_n 0, 1) := by decide +kernel
theorem dX9_forgetList_10 : decode cX9_forgetList 10 = .ok (.getfield 68, 3) := by decide +kernel
theorem dX9_forgetList_13 : decode cX9_forgetList 13 = .ok (.invokevirtual 188, 3) := by decide +kernel
theorem dX9_forgetList_16 : decode cX9_forgetList 16 = .ok (.return_, 1) := by decide +kernel
set_option maxRecDepth 20000 in
theorem ggX9_isAnyListMade_X2_isMade : GoodIn wsX9_isAnyListMade wsX2_isMade := goodIn_r _ [6, 7, 17, 18, 19, 20, 21] (by decide +kernel) (by decide +kernel)
set_option maxRecDepth 20000 in
theorem gX9_isAnyListMade_X2_isMade : GoodIn wsX9_isAnyListMade (wsV RX9 262 RX2 yX2_isMade wsX2_isMade) := goodIn_app (goodIn_of _ (by decide +kernel)) ggX9_isAnyListMade_X2_isMade
theorem dX9_isAnyListMade_0 : decode cX9_isAnyListMade 0 = .ok (.iconst 0, 1) := by decide +kernel
theorem dX9_isAnyListMade_1 : decode cX9_isAnyListMade 1 = .ok (.istore_n 1, 1) := by decide +kernel
theorem dX9_isAnyListMade_2 : decode cX9_isAnyListMade 2 = .ok (.iload_n 1, 1) := by decide +kernel
theorem dX9_isAnyListMade_3 : decode cX9_isAnyListMade 3 = .ok (.iconst 3, 1) := by decide +kernel
theorem dX9_isAnyListMade_4 : decode cX9_isAnyListMade 4 = .ok (.if_icmp .ge 23, 3) := by decide +kernel
theorem dX9_isAnyListMade_7 : decode cX9_isAnyListMade 7 = .ok (.aload_n 0, 1) := by decide +kernel
theorem dX9_isAnyListMade_8 : decode cX9_isAnyListMade 8 = .ok (.getfield 60, 3) := by decide +kernel
theorem dX9_isAnyListMade_11 : decode cX9_isAnyListMade 11 = .ok (.iload_n 1, 1) := by decide +kernel
theorem dX9_isAnyListMade_12 : decode cX9_isAnyListMade 12 = .ok (.aaload, 1) := by decide +kernel
theorem dX9_isAnyListMade_13 : decode cX9_isAnyListMade 13 = .ok (.invokevirtual 262, 3) := by decide +kernel
theorem dX9_isAnyListMade_16 : decode cX9_isAnyListMade 16 = .ok (.ifCond .eq 5, 3) := by decide +kernel
theorem dX9_isAnyListMade_19 : decode cX9_isAnyListMade 19 = .ok (.iconst 1, 1) := by decide +kernel
theorem dX9_isAnyListMade_20 : decode cX9_isAnyListMade 20 = .ok (.ireturn, 1) := by decide +kernel
theorem dX9_isAnyListMade_21 : decode cX9_isAnyListMade 21 = .ok (.iinc 1 1, 3) := by decide +kernel
theorem dX9_isAnyListMade_24 : decode cX9_isAnyListMade 24 = .ok (.goto (-22), 3) := by decide +kernel
theorem dX9_isAnyListMade_27 : decode cX9_isAnyListMade 27 = .ok (.iconst 0, 1) := by decide +kernel
theorem dX9_isAnyListMade_28 : decode cX9_isAnyListMade 28 = .ok (.ireturn, 1) := by decide +kernel
set_option maxRecDepth 20000 in
theorem ggX9_madeList_X9_isView : GoodIn wsX9_madeList wsX9_isView := goodIn_r _ [9] (by decide +kernel) (by decide +kernel)
set_option maxRecDepth 20000 in
theorem gX9_madeList_X9_isView : GoodIn wsX9_madeList (va_wsS RX9 172 yX9_isView wsX9_isView) := goodIn_app (goodIn_of _ (by decide +kernel)) ggX9_madeList_X9_isView
set_option maxRecDepth 20000 in
theorem ggX9_madeList_X2_isMade : GoodIn wsX9_madeList wsX2_isMade := goodIn_r _ [14, 15, 25, 26, 27, 28, 29] (by decide +kernel) (by decide +kernel)
set_option maxRecDepth 20000 in
theorem gX9_madeList_X2_isMade : GoodIn wsX9_madeList (wsV RX9 262 RX2 yX2_isMade wsX2_isMade) := goodIn_app (goodIn_of _ (by decide +kernel)) ggX9_madeList_X2_isMade
theorem dX9_madeList_0 : decode cX9_madeList 0 = .ok (.iload_n 1, 1) := by decide +kernel
theorem dX9_madeList_1 : decode cX9_madeList 1 = .ok (.invokestatic 172, 3) := by decide +kernel
theorem dX9_madeList_4 : decode cX9_madeList 4 = .ok (.ifCond .ne 14, 3) := by decide +kernel
theorem dX9_madeList_7 : decode cX9_madeList 7 = .ok (.new 115, 3) := by decide +kernel
theorem dX9_madeList_10 : decode cX9_madeList 10 = .ok (.dup, 1) := by decide +kernel
theorem dX9_madeList_11 : decode cX9_madeList 11 = .ok (.ldc_w 265, 3) := by decide +kernel
theorem dX9_madeList_14 : decode cX9_madeList 14 = .ok (.invokespecial 119, 3) := by decide +kernel
theorem dX9_madeList_17 : decode cX9_madeList 17 = .ok (.athrow, 1) := by decide +kernel
theorem dX9_madeList_18 : decode cX9_madeList 18 = .ok (.aload_n 0, 1) := by decide +kernel
theorem dX9_madeList_19 : decode cX9_madeList 19 = .ok (.getfield 60, 3) := by decide +kernel
theorem dX9_madeList_22 : decode cX9_madeList 22 = .ok (.iload_n 1, 1) := by decide +kernel
theorem dX9_madeList_23 : decode cX9_madeList 23 = .ok (.aaload, 1) := by decide +kernel
theorem dX9_madeList_24 : decode cX9_madeList 24 = .ok (.invokevirtual 262, 3) := by decide +kernel
theorem dX9_madeList_27 : decode cX9_madeList 27 = .ok (.ifCond .ne 14, 3) := by decide +kernel
theorem dX9_madeList_30 : decode cX9_madeList 30 = .ok (.new 267, 3) := by decide +kernel
theorem dX9_madeList_33 : decode cX9_madeList 33 = .ok (.dup, 1) := by decide +kernel
theorem dX9_madeList_34 : decode cX9_madeList 34 = .ok (.ldc_w 269, 3) := by decide +kernel
theorem dX9_madeList_37 : decode cX9_madeList 37 = .ok (.invokespecial 271, 3) := by decide +kernel
theorem dX9_madeList_40 : decode cX9_madeList 40 = .ok (.athrow, 1) := by decide +kernel
theorem dX9_madeList_41 : decode cX9_madeList 41 = .ok (.aload_n 0, 1) := by decide +kernel
theorem dX9_madeList_42 : decode cX9_madeList 42 = .ok (.getfield 60, 3) := by decide +kernel
theorem dX9_madeList_45 : decode cX9_madeList 45 = .ok (.iload_n 1, 1) := by decide +kernel
theorem dX9_madeList_46 : decode cX9_madeList 46 = .ok (.aaload, 1) := by decide +kernel
theorem dX9_madeList_47 : decode cX9_madeList 47 = .ok (.areturn, 1) := by decide +kernel
set_option maxRecDepth 20000 in
theorem ggX9_listWithPlace_X9_madeList : GoodIn wsX9_listWithPlace wsX9_madeList := goodIn_ca (goodIn_ca (goodIn_r _ [7, 8, 9, 10, 11, 12, 13, 14, 6, 15, 16, 17, 18, 19, 20, 21, 33, 34, 35, 36, 37, 38, 39, 40, 41, 42, 43, 44, 45, 46] (by decide +kernel) (by decide +kernel)) (goodIn_sub (fun _ h => List.mem_cons_of_mem _ (List.mem_append_left _ (List.mem_append_right _ h))) (by decide +kernel))) (goodIn_sub (fun _ h => List.mem_cons_of_mem _ (List.mem_append_right _ h)) (by decide +kernel))
set_option maxRecDepth 20000 in
theorem gX9_listWithPlace_X9_madeList : GoodIn wsX9_listWithPlace (wsV RX9 213 RX9 yX9_madeList wsX9_madeList) := goodIn_app (goodIn_of _ (by decide +kernel)) ggX9_listWithPlace_X9_madeList
set_option maxRecDepth 20000 in
theorem ggX9_listWithPlace_X2_ranking : GoodIn wsX9_listWithPlace wsX2_ranking := goodIn_r _ [25, 26, 42, 43, 44, 45, 46] (by decide +kernel) (by decide +kernel)
set_option maxRecDepth 20000 in
theorem gX9_listWithPlace_X2_ranking : GoodIn wsX9_listWithPlace (wsV RX9 199 RX2 yX2_ranking wsX2_ranking) := goodIn_app (goodIn_of _ (by decide +kernel)) ggX9_listWithPlace_X2_ranking
set_option maxRecDepth 20000 in
theorem ggX9_listWithPlace_X4_holdsPlace : GoodIn wsX9_listWithPlace wsX4_holdsPlace := goodIn_r _ [31, 32, 47, 48, 49, 50] (by decide +kernel) (by decide +kernel)
set_option maxRecDepth 20000 in
theorem gX9_listWithPlace_X4_holdsPlace : GoodIn wsX9_listWithPlace (wsV RX9 238 RX4 yX4_holdsPlace wsX4_holdsPlace) := goodIn_app (goodIn_of _ (by decide +kernel)) ggX9_listWithPlace_X4_holdsPlace
theorem dX9_listWithPlace_0 : decode cX9_listWithPlace 0 = .ok (.aload_n 0, 1) := by decide +kernel
theorem dX9_listWithPlace_1 : decode cX9_listWithPlace 1 = .ok (.iload_n 1, 1) := by decide +kernel
theorem dX9_listWithPlace_2 : decode cX9_listWithPlace 2 = .ok (.invokevirtual 213, 3) := by decide +kernel
theorem dX9_listWithPlace_5 : decode cX9_listWithPlace 5 = .ok (.astore_n 3, 1) := by decide +kernel
theorem dX9_listWithPlace_6 : decode cX9_listWithPlace 6 = .ok (.aload_n 3, 1) := by decide +kernel
theorem dX9_listWithPlace_7 : decode cX9_listWithPlace 7 = .ok (.invokevirtual 199, 3) := by decide +kernel
theorem dX9_listWithPlace_10 : decode cX9_listWithPlace 10 = .ok (.iload_n 2, 1) := by decide +kernel
theorem dX9_listWithPlace_11 : decode cX9_listWithPlace 11 = .ok (.invokevirtual 238, 3) := by decide +kernel
theorem dX9_listWithPlace_14 : decode cX9_listWithPlace 14 = .ok (.ifCond .ne 13, 3) := by decide +kernel
theorem dX9_listWithPlace_17 : decode cX9_listWithPlace 17 = .ok (.new 97, 3) := by decide +kernel
theorem dX9_listWithPlace_20 : decode cX9_listWithPlace 20 = .ok (.dup, 1) := by decide +kernel
theorem dX9_listWithPlace_21 : decode cX9_listWithPlace 21 = .ok (.ldc 241, 2) := by decide +kernel
theorem dX9_listWithPlace_23 : decode cX9_listWithPlace 23 = .ok (.invokespecial 101, 3) := by decide +kernel
theorem dX9_listWithPlace_26 : decode cX9_listWithPlace 26 = .ok (.athrow, 1) := by decide +kernel
theorem dX9_listWithPlace_27 : decode cX9_listWithPlace 27 = .ok (.aload_n 3, 1) := by decide +kernel
theorem dX9_listWithPlace_28 : decode cX9_listWithPlace 28 = .ok (.areturn, 1) := by decide +kernel
set_option maxRecDepth 20000 in
theorem ggX9_makeList_X9_preparedScorer : GoodIn wsX9_makeList wsX9_preparedScorer := goodIn_r _ [7, 8, 9, 10, 11, 12, 13, 14, 15, 16, 17, 18, 19, 20, 21, 22, 23, 24, 25, 26, 27, 28, 29, 30, 31, 32, 33, 34, 35, 36, 37, 38, 39, 40, 41, 42, 43, 44, 45, 46, 47, 48, 49, 50, 51, 52, 53, 54, 55, 56, 57, 58, 59, 60, 61, 62, 63, 64, 65, 66, 67, 68, 69, 70, 71, 72, 73, 74, 75, 76, 6, 77, 78, 79, 80, 81, 82, 83, 84, 85, 86, 87, 88, 89, 90, 91, 92, 93, 94, 95, 96, 97, 98, 99, 100, 101, 102, 103, 104, 105, 106, 107, 108, 109, 110, 111, 112, 113, 114, 115, 116, 117, 118, 119, 120, 121, 122, 251, 252, 253, 254, 255, 256, 257, 258, 259, 260, 261, 262, 263, 264, 265, 266, 267, 268, 269, 270, 271, 272, 273, 274, 275, 276, 277, 278] (by decide +kernel) (by decide +kernel)
set_option maxRecDepth 20000 in
theorem gX9_makeList_X9_preparedScorer : GoodIn wsX9_makeList (wsV RX9 272 RX9 yX9_preparedScorer wsX9_preparedScorer) := goodIn_app (goodIn_of _ (by decide +kernel)) ggX9_makeList_X9_preparedScorer
set_option maxRecDepth 20000 in
theorem ggX9_makeList_X2_start : GoodIn wsX9_makeList wsX2_start := goodIn_r _ [127, 128, 129, 130, 131, 132, 133, 134, 135, 136, 137, 138, 139, 140, 141, 142, 143, 279, 280, 281, 282, 283, 284, 285, 286, 287] (by decide +kernel) (by decide +kernel)
set_option maxRecDepth 20000 in
theorem gX9_makeList_X2_start : GoodIn wsX9_makeList (wsV RX9 276 RX2 yX2_start wsX2_start) := goodIn_app (goodIn_of _ (by decide +kernel)) ggX9_makeList_X2_start
set_option maxRecDepth 20000 in
theorem ggX9_makeList_X4_start : GoodIn wsX9_makeList wsX4_start := goodIn_r _ [137, 138, 139, 140, 141, 142, 143, 284, 285, 286, 287] (by decide +kernel) (by decide +kernel)
set_option maxRecDepth 20000 in
theorem gX9_makeList_X4_start : GoodIn wsX9_makeList (wsV RX9 279 RX4 yX4_start wsX4_start) := goodIn_app (goodIn_of _ (by decide +kernel)) ggX9_makeList_X4_start
set_option maxRecDepth 20000 in
theorem ggX9_makeList_X9_pruneShard : GoodIn wsX9_makeList wsX9_pruneShard := goodIn_r _ [148, 2, 9, 149, 150, 151, 6, 152, 153, 154, 155, 156, 10, 157, 139, 140, 141, 158, 68, 69, 31, 70, 60, 159, 160, 161, 162, 163, 164, 46, 165, 48, 100, 166, 167, 168, 136, 169, 143, 142, 170, 171, 172, 173, 126, 174, 131, 175, 176, 177, 178, 179, 180, 181, 182, 49, 183, 184, 185, 186, 187, 188, 189, 190, 132, 191, 192, 193, 194, 130, 195, 196, 197, 198, 199, 200, 201, 202, 203, 204, 205, 206, 207, 251, 252, 253, 254, 255, 256, 257, 258, 259, 267, 268, 269, 270, 271, 272, 273, 274, 275, 284, 285, 286, 287, 279, 280, 281, 282, 283] (by decide +kernel) (by decide +kernel)
set_option maxRecDepth 20000 in
theorem gX9_makeList_X9_pruneShard : GoodIn wsX9_makeList (wsV RX9 280 RX9 yX9_pruneShard wsX9_pruneShard) := goodIn_app (goodIn_of _ (by decide +kernel)) ggX9_makeList_X9_pruneShard
set_option maxRecDepth 20000 in
theorem ggX9_makeList_X9_scoreShard : GoodIn wsX9_makeList wsX9_scoreShard := goodIn_r _ [211, 10, 2, 158, 68, 69, 31, 70, 60, 159, 160, 6, 161, 212, 213, 214, 180, 46, 182, 48, 49, 215, 216, 16, 217, 21, 18, 20, 218, 219, 220, 221, 222, 223, 224, 225, 226, 19, 22, 23, 24, 25, 26, 27, 28, 29, 30, 32, 33, 34, 35, 36, 37, 38, 39, 40, 41, 42, 191, 192, 193, 126, 194, 130, 227, 228, 229, 196, 198, 230, 231, 232, 233, 234, 235, 236, 237, 110, 111, 199, 200, 201, 136, 202, 143, 142, 203, 170, 204, 205, 206, 207, 251, 252, 253, 254, 255, 256, 257, 258, 259, 267, 268, 269, 270, 271, 272, 273, 274, 275, 260, 261, 262, 263, 264, 265, 266, 279, 280, 281, 282, 283, 284, 285, 286, 287] (by decide +kernel) (by decide +kernel)
set_option maxRecDepth 20000 in
theorem gX9_makeList_X9_scoreShard : GoodIn wsX9_makeList (wsV RX9 284 RX9 yX9_scoreShard wsX9_scoreShard) := goodIn_app (goodIn_of _ (by decide +kernel)) ggX9_makeList_X9_scoreShard
set_option maxRecDepth 20000 in
theorem ggX9_makeList_X2_ranking : GoodIn wsX9_makeList wsX2_ranking := goodIn_r _ [241, 128, 279, 280, 281, 282, 283] (by decide +kernel) (by decide +kernel)
set_option maxRecDepth 20000 in
theorem gX9_makeList_X2_ranking : GoodIn wsX9_makeList (wsV RX9 199 RX2 yX2_ranking wsX2_ranking) := goodIn_app (goodIn_of _ (by decide +kernel)) ggX9_makeList_X2_ranking
set_option maxRecDepth 20000 in
theorem ggX9_makeList_X4_offerAll : GoodIn wsX9_makeList wsX4_offerAll := goodIn_r _ [245, 143, 203, 170, 246, 200, 201, 136, 202, 142, 204, 205, 206, 207, 284, 285, 286, 287] (by decide +kernel) (by decide +kernel)
set_option maxRecDepth 20000 in
theorem gX9_makeList_X4_offerAll : GoodIn wsX9_makeList (wsV RX9 288 RX4 yX4_offerAll wsX4_offerAll) := goodIn_app (goodIn_of _ (by decide +kernel)) ggX9_makeList_X4_offerAll
set_option maxRecDepth 20000 in
theorem ggX9_makeList_X4_size : GoodIn wsX9_makeList wsX4_size := goodIn_r _ [250, 143, 284, 285, 286, 287] (by decide +kernel) (by decide +kernel)
set_option maxRecDepth 20000 in
theorem gX9_makeList_X4_size : GoodIn wsX9_makeList (wsV RX9 292 RX4 yX4_size wsX4_size) := goodIn_app (goodIn_of _ (by decide +kernel)) ggX9_makeList_X4_size
theorem dX9_makeList_0 : decode cX9_makeList 0 = .ok (.aload_n 0, 1) := by decide +kernel
theorem dX9_makeList_1 : decode cX9_makeList 1 = .ok (.iload_n 1, 1) := by decide +kernel
theorem dX9_makeList_2 : decode cX9_makeList 2 = .ok (.iload_n 2, 1) := by decide +kernel
theorem dX9_makeList_3 : decode cX9_makeList 3 = .ok (.invokevirtual 272, 3) := by decide +kernel
theorem dX9_makeList_6 : decode cX9_makeList 6 = .ok (.astore 5, 2) := by decide +kernel
theorem dX9_makeList_8 : decode cX9_makeList 8 = .ok (.aload_n 0, 1) := by decide +kernel
theorem dX9_makeList_9 : decode cX9_makeList 9 = .ok (.getfield 60, 3) := by decide +kernel
theorem dX9_makeList_12 : decode cX9_makeList 12 = .ok (.iload_n 1, 1) := by decide +kernel
theorem dX9_makeList_13 : decode cX9_makeList 13 = .ok (.aaload, 1) := by decide +kernel
theorem dX9_makeList_14 : decode cX9_makeList 14 = .ok (.astore 6, 2) := by decide +kernel
theorem dX9_makeList_16 : decode cX9_makeList 16 = .ok (.aload 6, 2) := by decide +kernel
theorem dX9_makeList_18 : decode cX9_makeList 18 = .ok (.iload_n 3, 1) := by decide +kernel
theorem dX9_makeList_19 : decode cX9_makeList 19 = .ok (.invokevirtual 276, 3) := by decide +kernel
theorem dX9_makeList_22 : decode cX9_makeList 22 = .ok (.iconst 0, 1) := by decide +kernel
theorem dX9_makeList_23 : decode cX9_makeList 23 = .ok (.istore 7, 2) := by decide +kernel
theorem dX9_makeList_25 : decode cX9_makeList 25 = .ok (.iload 7, 2) := by decide +kernel
theorem dX9_makeList_27 : decode cX9_makeList 27 = .ok (.iload 4, 2) := by decide +kernel
theorem dX9_makeList_29 : decode cX9_makeList 29 = .ok (.if_icmp .ge 59, 3) := by decide +kernel
theorem dX9_makeList_32 : decode cX9_makeList 32 = .ok (.aload_n 0, 1) := by decide +kernel
theorem dX9_makeList_33 : decode cX9_makeList 33 = .ok (.getfield 54, 3) := by decide +kernel
theorem dX9_makeList_36 : decode cX9_makeList 36 = .ok (.iload_n 3, 1) := by decide +kernel
theorem dX9_makeList_37 : decode cX9_makeList 37 = .ok (.invokevirtual 279, 3) := by decide +kernel
theorem dX9_makeList_40 : decode cX9_makeList 40 = .ok (.iload_n 2, 1) := by decide +kernel
theorem dX9_makeList_41 : decode cX9_makeList 41 = .ok (.iconst 1, 1) := by decide +kernel
theorem dX9_makeList_42 : decode cX9_makeList 42 = .ok (.if_icmp .ne 16, 3) := by decide +kernel
theorem dX9_makeList_45 : decode cX9_makeList 45 = .ok (.aload_n 0, 1) := by decide +kernel
theorem dX9_makeList_46 : decode cX9_makeList 46 = .ok (.aload 6, 2) := by decide +kernel
theorem dX9_makeList_48 : decode cX9_makeList 48 = .ok (.iload 7, 2) := by decide +kernel
theorem dX9_makeList_50 : decode cX9_makeList 50 = .ok (.iload 4, 2) := by decide +kernel
theorem dX9_makeList_52 : decode cX9_makeList 52 = .ok (.invokevirtual 280, 3) := by decide +kernel
theorem dX9_makeList_55 : decode cX9_makeList 55 = .ok (.goto 15, 3) := by decide +kernel
theorem dX9_makeList_58 : decode cX9_makeList 58 = .ok (.aload_n 0, 1) := by decide +kernel
theorem dX9_makeList_59 : decode cX9_makeList 59 = .ok (.aload 6, 2) := by decide +kernel
theorem dX9_makeList_61 : decode cX9_makeList 61 = .ok (.aload 5, 2) := by decide +kernel
theorem dX9_makeList_63 : decode cX9_makeList 63 = .ok (.iload 7, 2) := by decide +kernel
theorem dX9_makeList_65 : decode cX9_makeList 65 = .ok (.iload 4, 2) := by decide +kernel
theorem dX9_makeList_67 : decode cX9_makeList 67 = .ok (.invokevirtual 284, 3) := by decide +kernel
theorem dX9_makeList_70 : decode cX9_makeList 70 = .ok (.aload 6, 2) := by decide +kernel
theorem dX9_makeList_72 : decode cX9_makeList 72 = .ok (.invokevirtual 199, 3) := by decide +kernel
theorem dX9_makeList_75 : decode cX9_makeList 75 = .ok (.aload_n 0, 1) := by decide +kernel
theorem dX9_makeList_76 : decode cX9_makeList 76 = .ok (.getfield 54, 3) := by decide +kernel
theorem dX9_makeList_79 : decode cX9_makeList 79 = .ok (.invokevirtual 288, 3) := by decide +kernel
theorem dX9_makeList_82 : decode cX9_makeList 82 = .ok (.iinc 7 1, 3) := by decide +kernel
theorem dX9_makeList_85 : decode cX9_makeList 85 = .ok (.goto (-60), 3) := by decide +kernel
theorem dX9_makeList_88 : decode cX9_makeList 88 = .ok (.aload 6, 2) := by decide +kernel
theorem dX9_makeList_90 : decode cX9_makeList 90 = .ok (.invokevirtual 199, 3) := by decide +kernel
theorem dX9_makeList_93 : decode cX9_makeList 93 = .ok (.invokevirtual 292, 3) := by decide +kernel
theorem dX9_makeList_96 : decode cX9_makeList 96 = .ok (.ireturn, 1) := by decide +kernel
set_option maxRecDepth 20000 in
theorem ggX9_preparedScorer_X8_prepare : GoodIn wsX9_preparedScorer wsX8_prepare := goodIn_r _ [10, 11, 12, 13, 14, 15, 16, 17, 18, 19, 20, 21, 22, 23, 24, 25, 26, 27, 28, 29, 30, 31, 32, 33, 34, 35, 126, 127, 128, 129, 130, 131, 132, 133, 134, 135, 136, 137, 138] (by decide +kernel) (by decide +kernel)
set_option maxRecDepth 20000 in
theorem gX9_preparedScorer_X8_prepare : GoodIn wsX9_preparedScorer (wsV RX9 293 RX8 yX8_prepare wsX8_prepare) := goodIn_app (goodIn_of _ (by decide +kernel)) ggX9_preparedScorer_X8_prepare
set_option maxRecDepth 20000 in
theorem ggX9_preparedScorer_X3_fillWords : GoodIn wsX9_preparedScorer wsX3_fillWords := goodIn_r _ [40, 41, 42, 43, 44, 45, 46, 47, 48, 49, 50, 51, 24, 52, 53, 54, 55, 56, 57, 58, 59, 60, 61, 62, 63, 64, 65, 66, 67, 68, 69, 70, 71, 72, 73, 74, 75, 76, 77, 78, 79, 80, 81, 82, 83, 84, 85, 86, 87, 88, 89, 90, 91, 92, 39, 93, 94, 139, 140, 141, 142, 143, 144, 133, 134, 135, 136, 137, 138] (by decide +kernel) (by decide +kernel)
set_option maxRecDepth 20000 in
theorem gX9_preparedScorer_X3_fillWords : GoodIn wsX9_preparedScorer (wsV RX9 297 RX3 yX3_fillWords wsX3_fillWords) := goodIn_app (goodIn_of _ (by decide +kernel)) ggX9_preparedScorer_X3_fillWords
set_option maxRecDepth 20000 in
theorem ggX9_preparedScorer_X3_fillImpacts : GoodIn wsX9_preparedScorer wsX3_fillImpacts := goodIn_r _ [98, 41, 42, 43, 44, 45, 46, 47, 48, 99, 100, 101, 24, 102, 53, 103, 104, 70, 105, 60, 61, 62, 63, 55, 56, 57, 58, 59, 106, 107, 108, 109, 110, 111, 112, 113, 114, 115, 116, 90, 91, 92, 39, 93, 94, 139, 140, 141, 142, 143, 144, 133, 134, 135, 136, 137, 138] (by decide +kernel) (by decide +kernel)
set_option maxRecDepth 20000 in
theorem gX9_preparedScorer_X3_fillImpacts : GoodIn wsX9_preparedScorer (wsV RX9 301 RX3 yX3_fillImpacts wsX3_fillImpacts) := goodIn_app (goodIn_of _ (by decide +kernel)) ggX9_preparedScorer_X3_fillImpacts
theorem dX9_preparedScorer_0 : decode cX9_preparedScorer 0 = .ok (.iload_n 1, 1) := by decide +kernel
theorem dX9_preparedScorer_1 : decode cX9_preparedScorer 1 = .ok (.iconst 2, 1) := by decide +kernel
theorem dX9_preparedScorer_2 : decode cX9_preparedScorer 2 = .ok (.if_icmp .ne 25, 3) := by decide +kernel
theorem dX9_preparedScorer_5 : decode cX9_preparedScorer 5 = .ok (.aload_n 0, 1) := by decide +kernel
theorem dX9_preparedScorer_6 : decode cX9_preparedScorer 6 = .ok (.getfield 47, 3) := by decide +kernel
theorem dX9_preparedScorer_9 : decode cX9_preparedScorer 9 = .ok (.iload_n 2, 1) := by decide +kernel
theorem dX9_preparedScorer_10 : decode cX9_preparedScorer 10 = .ok (.iconst 2, 1) := by decide +kernel
theorem dX9_preparedScorer_11 : decode cX9_preparedScorer 11 = .ok (.if_icmp .ne 7, 3) := by decide +kernel
theorem dX9_preparedScorer_14 : decode cX9_preparedScorer 14 = .ok (.iconst 1, 1) := by decide +kernel
theorem dX9_preparedScorer_15 : decode cX9_preparedScorer 15 = .ok (.goto 4, 3) := by decide +kernel
theorem dX9_preparedScorer_18 : decode cX9_preparedScorer 18 = .ok (.iconst 0, 1) := by decide +kernel
theorem dX9_preparedScorer_19 : decode cX9_preparedScorer 19 = .ok (.invokevirtual 293, 3) := by decide +kernel
theorem dX9_preparedScorer_22 : decode cX9_preparedScorer 22 = .ok (.aload_n 0, 1) := by decide +kernel
theorem dX9_preparedScorer_23 : decode cX9_preparedScorer 23 = .ok (.getfield 47, 3) := by decide +kernel
theorem dX9_preparedScorer_26 : decode cX9_preparedScorer 26 = .ok (.areturn, 1) := by decide +kernel
theorem dX9_preparedScorer_27 : decode cX9_preparedScorer 27 = .ok (.iload_n 1, 1) := by decide +kernel
theorem dX9_preparedScorer_28 : decode cX9_preparedScorer 28 = .ok (.ifCond .ne 21, 3) := by decide +kernel
theorem dX9_preparedScorer_31 : decode cX9_preparedScorer 31 = .ok (.aload_n 0, 1) := by decide +kernel
theorem dX9_preparedScorer_32 : decode cX9_preparedScorer 32 = .ok (.getfield 38, 3) := by decide +kernel
theorem dX9_preparedScorer_35 : decode cX9_preparedScorer 35 = .ok (.aload_n 0, 1) := by decide +kernel
theorem dX9_preparedScorer_36 : decode cX9_preparedScorer 36 = .ok (.getfield 12, 3) := by decide +kernel
theorem dX9_preparedScorer_39 : decode cX9_preparedScorer 39 = .ok (.aload_n 0, 1) := by decide +kernel
theorem dX9_preparedScorer_40 : decode cX9_preparedScorer 40 = .ok (.getfield 19, 3) := by decide +kernel
theorem dX9_preparedScorer_43 : decode cX9_preparedScorer 43 = .ok (.invokevirtual 297, 3) := by decide +kernel
theorem dX9_preparedScorer_46 : decode cX9_preparedScorer 46 = .ok (.goto 18, 3) := by decide +kernel
theorem dX9_preparedScorer_49 : decode cX9_preparedScorer 49 = .ok (.aload_n 0, 1) := by decide +kernel
theorem dX9_preparedScorer_50 : decode cX9_preparedScorer 50 = .ok (.getfield 38, 3) := by decide +kernel
theorem dX9_preparedScorer_53 : decode cX9_preparedScorer 53 = .ok (.aload_n 0, 1) := by decide +kernel
theorem dX9_preparedScorer_54 : decode cX9_preparedScorer 54 = .ok (.getfield 12, 3) := by decide +kernel
theorem dX9_preparedScorer_57 : decode cX9_preparedScorer 57 = .ok (.aload_n 0, 1) := by decide +kernel
theorem dX9_preparedScorer_58 : decode cX9_preparedScorer 58 = .ok (.getfield 23, 3) := by decide +kernel
theorem dX9_preparedScorer_61 : decode cX9_preparedScorer 61 = .ok (.invokevirtual 301, 3) := by decide +kernel
theorem dX9_preparedScorer_64 : decode cX9_preparedScorer 64 = .ok (.aload_n 0, 1) := by decide +kernel
theorem dX9_preparedScorer_65 : decode cX9_preparedScorer 65 = .ok (.getfield 38, 3) := by decide +kernel
theorem dX9_preparedScorer_68 : decode cX9_preparedScorer 68 = .ok (.areturn, 1) := by decide +kernel
theorem dX9_isOfShard_0 : decode cX9_isOfShard 0 = .ok (.iload_n 2, 1) := by decide +kernel
theorem dX9_isOfShard_1 : decode cX9_isOfShard 1 = .ok (.ifCond .le 14, 3) := by decide +kernel
theorem dX9_isOfShard_4 : decode cX9_isOfShard 4 = .ok (.iload_n 0, 1) := by decide +kernel
theorem dX9_isOfShard_5 : decode cX9_isOfShard 5 = .ok (.iload_n 2, 1) := by decide +kernel
theorem dX9_isOfShard_6 : decode cX9_isOfShard 6 = .ok (.irem, 1) := by decide +kernel
theorem dX9_isOfShard_7 : decode cX9_isOfShard 7 = .ok (.iload_n 1, 1) := by decide +kernel
theorem dX9_isOfShard_8 : decode cX9_isOfShard 8 = .ok (.if_icmp .ne 7, 3) := by decide +kernel
theorem dX9_isOfShard_11 : decode cX9_isOfShard 11 = .ok (.iconst 1, 1) := by decide +kernel
theorem dX9_isOfShard_12 : decode cX9_isOfShard 12 = .ok (.goto 4, 3) := by decide +kernel
theorem dX9_isOfShard_15 : decode cX9_isOfShard 15 = .ok (.iconst 0, 1) := by decide +kernel
theorem dX9_isOfShard_16 : decode cX9_isOfShard 16 = .ok (.ireturn, 1) := by decide +kernel
set_option maxRecDepth 20000 in
theorem ggX9_scoreShard_X0_size : GoodIn wsX9_scoreShard wsX0_size := goodIn_r _ [7, 8, 101, 102, 103, 104, 105, 106] (by decide +kernel) (by decide +kernel)
set_option maxRecDepth 20000 in
theorem gX9_scoreShard_X0_size : GoodIn wsX9_scoreShard (wsV RX9 304 RX0 yX0_size wsX0_size) := goodIn_app (goodIn_of _ (by decide +kernel)) ggX9_scoreShard_X0_size
set_option maxRecDepth 20000 in
theorem ggX9_scoreShard_X9_isOfShard : GoodIn wsX9_scoreShard wsX9_isOfShard := goodIn_r _ [12] (by decide +kernel) (by decide +kernel)
set_option maxRecDepth 20000 in
theorem gX9_scoreShard_X9_isOfShard : GoodIn wsX9_scoreShard (va_wsS RX9 305 yX9_isOfShard wsX9_isOfShard) := goodIn_app (goodIn_of _ (by decide +kernel)) ggX9_scoreShard_X9_isOfShard
set_option maxRecDepth 20000 in
theorem ggX9_scoreShard_X3_matches : GoodIn wsX9_scoreShard wsX3_matches := goodIn_r _ [18, 19, 20, 107, 108, 109] (by decide +kernel) (by decide +kernel)
set_option maxRecDepth 20000 in
theorem gX9_scoreShard_X3_matches_u309X3 : GoodIn wsX9_scoreShard (va_wsU RX9 309 RX3 "HybridSearch$Scorer" ⟨"HybridSearch$Scorer", "matches", "(I)Z"⟩ yX3_matches wsX3_matches) := goodIn_app (goodIn_of _ (by decide +kernel)) ggX9_scoreShard_X3_matches
set_option maxRecDepth 20000 in
theorem ggX9_scoreShard_X8_matches : GoodIn wsX9_scoreShard wsX8_matches := goodIn_r _ [24, 25, 26, 27, 28, 29, 30, 6, 31, 32, 33, 34, 35, 23, 36, 37, 38, 39, 40, 41, 42, 43, 44, 45, 46, 47, 48, 49, 50, 51, 52, 53, 54, 55, 56, 57, 110, 111, 112, 113, 101, 102, 103, 104, 105, 106, 114, 115, 116] (by decide +kernel) (by decide +kernel)
set_option maxRecDepth 20000 in
theorem gX9_scoreShard_X8_matches_u309X8 : GoodIn wsX9_scoreShard (va_wsU RX9 309 RX8 "HybridSearch$Scorer" ⟨"HybridSearch$Scorer", "matches", "(I)Z"⟩ yX8_matches wsX8_matches) := goodIn_app (goodIn_of _ (by decide +kernel)) ggX9_scoreShard_X8_matches
set_option maxRecDepth 20000 in
theorem ggX9_scoreShard_X2_addScored : GoodIn wsX9_scoreShard wsX2_addScored := goodIn_r _ [62, 63, 117, 118, 119, 120, 121] (by decide +kernel) (by decide +kernel)
set_option maxRecDepth 20000 in
theorem gX9_scoreShard_X2_addScored : GoodIn wsX9_scoreShard (wsV RX9 314 RX2 yX2_addScored wsX2_addScored) := goodIn_app (goodIn_of _ (by decide +kernel)) ggX9_scoreShard_X2_addScored
set_option maxRecDepth 20000 in
theorem ggX9_scoreShard_X3_scoreOf : GoodIn wsX9_scoreShard wsX3_scoreOf := goodIn_r _ [68, 19, 20, 107, 108, 109] (by decide +kernel) (by decide +kernel)
set_option maxRecDepth 20000 in
theorem gX9_scoreShard_X3_scoreOf_u317X3 : GoodIn wsX9_scoreShard (va_wsU RX9 317 RX3 "HybridSearch$Scorer" ⟨"HybridSearch$Scorer", "scoreOf", "(I)D"⟩ yX3_scoreOf wsX3_scoreOf) := goodIn_app (goodIn_of _ (by decide +kernel)) ggX9_scoreShard_X3_scoreOf
set_option maxRecDepth 20000 in
theorem ggX9_scoreShard_X8_scoreOf : GoodIn wsX9_scoreShard wsX8_scoreOf := goodIn_r _ [71, 25, 27, 28, 29, 30, 6, 31, 32, 38, 39, 40, 41, 42, 43, 72, 73, 74, 23, 75, 76, 54, 55, 56, 57, 77, 11, 78, 110, 111, 112, 113, 101, 102, 103, 104, 105, 106, 114, 115, 116] (by decide +kernel) (by decide +kernel)
set_option maxRecDepth 20000 in
theorem gX9_scoreShard_X8_scoreOf_u317X8 : GoodIn wsX9_scoreShard (va_wsU RX9 317 RX8 "HybridSearch$Scorer" ⟨"HybridSearch$Scorer", "scoreOf", "(I)D"⟩ yX8_scoreOf wsX8_scoreOf) := goodIn_app (goodIn_of _ (by decide +kernel)) ggX9_scoreShard_X8_scoreOf
set_option maxRecDepth 20000 in
theorem ggX9_scoreShard_X4_offer : GoodIn wsX9_scoreShard wsX4_offer := goodIn_r _ [83, 84, 85, 86, 87, 88, 89, 90, 82, 91, 122, 123, 124, 125] (by decide +kernel) (by decide +kernel)
set_option maxRecDepth 20000 in
theorem gX9_scoreShard_X4_offer : GoodIn wsX9_scoreShard (wsV RX9 320 RX4 yX4_offer wsX4_offer) := goodIn_app (goodIn_of _ (by decide +kernel)) ggX9_scoreShard_X4_offer
theorem dX9_scoreShard_0 : decode cX9_scoreShard 0 = .ok (.iconst 0, 1) := by decide +kernel
theorem dX9_scoreShard_1 : decode cX9_scoreShard 1 = .ok (.istore 5, 2) := by decide +kernel
theorem dX9_scoreShard_3 : decode cX9_scoreShard 3 = .ok (.iload 5, 2) := by decide +kernel
theorem dX9_scoreShard_5 : decode cX9_scoreShard 5 = .ok (.aload_n 0, 1) := by decide +kernel
theorem dX9_scoreShard_6 : decode cX9_scoreShard 6 = .ok (.getfield 12, 3) := by decide +kernel
theorem dX9_scoreShard_9 : decode cX9_scoreShard 9 = .ok (.invokevirtual 304, 3) := by decide +kernel
theorem dX9_scoreShard_12 : decode cX9_scoreShard 12 = .ok (.if_icmp .ge 48, 3) := by decide +kernel
theorem dX9_scoreShard_15 : decode cX9_scoreShard 15 = .ok (.iload 5, 2) := by decide +kernel
theorem dX9_scoreShard_17 : decode cX9_scoreShard 17 = .ok (.iload_n 3, 1) := by decide +kernel
theorem dX9_scoreShard_18 : decode cX9_scoreShard 18 = .ok (.iload 4, 2) := by decide +kernel
theorem dX9_scoreShard_20 : decode cX9_scoreShard 20 = .ok (.invokestatic 305, 3) := by decide +kernel
theorem dX9_scoreShard_23 : decode cX9_scoreShard 23 = .ok (.ifCond .eq 31, 3) := by decide +kernel
theorem dX9_scoreShard_26 : decode cX9_scoreShard 26 = .ok (.aload_n 2, 1) := by decide +kernel
theorem dX9_scoreShard_27 : decode cX9_scoreShard 27 = .ok (.iload 5, 2) := by decide +kernel
theorem dX9_scoreShard_29 : decode cX9_scoreShard 29 = .ok (.invokevirtual 309, 3) := by decide +kernel
theorem dX9_scoreShard_32 : decode cX9_scoreShard 32 = .ok (.ifCond .eq 22, 3) := by decide +kernel
theorem dX9_scoreShard_35 : decode cX9_scoreShard 35 = .ok (.aload_n 1, 1) := by decide +kernel
theorem dX9_scoreShard_36 : decode cX9_scoreShard 36 = .ok (.invokevirtual 314, 3) := by decide +kernel
theorem dX9_scoreShard_39 : decode cX9_scoreShard 39 = .ok (.aload_n 0, 1) := by decide +kernel
theorem dX9_scoreShard_40 : decode cX9_scoreShard 40 = .ok (.getfield 54, 3) := by decide +kernel
theorem dX9_scoreShard_43 : decode cX9_scoreShard 43 = .ok (.iload 5, 2) := by decide +kernel
theorem dX9_scoreShard_45 : decode cX9_scoreShard 45 = .ok (.aload_n 2, 1) := by decide +kernel
theorem dX9_scoreShard_46 : decode cX9_scoreShard 46 = .ok (.iload 5, 2) := by decide +kernel
theorem dX9_scoreShard_48 : decode cX9_scoreShard 48 = .ok (.invokevirtual 317, 3) := by decide +kernel
theorem dX9_scoreShard_51 : decode cX9_scoreShard 51 = .ok (.invokevirtual 320, 3) := by decide +kernel
theorem dX9_scoreShard_54 : decode cX9_scoreShard 54 = .ok (.iinc 5 1, 3) := by decide +kernel
theorem dX9_scoreShard_57 : decode cX9_scoreShard 57 = .ok (.goto (-54), 3) := by decide +kernel
theorem dX9_scoreShard_60 : decode cX9_scoreShard 60 = .ok (.return_, 1) := by decide +kernel
set_option maxRecDepth 20000 in
theorem ggX9_pruneShard_X9_hasDocumentOfShard : GoodIn wsX9_pruneShard wsX9_hasDocumentOfShard := goodIn_r _ [7, 8, 9, 10, 6, 11, 12, 13, 14, 15, 16, 17, 18, 19, 20, 21, 22, 23, 24, 25, 83, 84, 85, 86, 87, 88, 89, 90, 91, 92, 93, 94, 95, 96, 97] (by decide +kernel) (by decide +kernel)
set_option maxRecDepth 20000 in
theorem gX9_pruneShard_X9_hasDocumentOfShard : GoodIn wsX9_pruneShard (wsV RX9 324 RX9 yX9_hasDocumentOfShard wsX9_hasDocumentOfShard) := goodIn_app (goodIn_of _ (by decide +kernel)) ggX9_pruneShard_X9_hasDocumentOfShard
set_option maxRecDepth 20000 in
theorem ggX9_pruneShard_X3_blockBound : GoodIn wsX9_pruneShard wsX3_blockBound := goodIn_r _ [30, 31, 32, 98, 99, 100] (by decide +kernel) (by decide +kernel)
set_option maxRecDepth 20000 in
theorem gX9_pruneShard_X3_blockBound : GoodIn wsX9_pruneShard (wsV RX9 327 RX3 yX3_blockBound wsX3_blockBound) := goodIn_app (goodIn_of _ (by decide +kernel)) ggX9_pruneShard_X3_blockBound
set_option maxRecDepth 20000 in
theorem ggX9_pruneShard_X4_shutsOut : GoodIn wsX9_pruneShard wsX4_shutsOut := goodIn_r _ [37, 38, 39, 40, 101, 102, 103, 104] (by decide +kernel) (by decide +kernel)
set_option maxRecDepth 20000 in
theorem gX9_pruneShard_X4_shutsOut : GoodIn wsX9_pruneShard (wsV RX9 330 RX4 yX4_shutsOut wsX4_shutsOut) := goodIn_app (goodIn_of _ (by decide +kernel)) ggX9_pruneShard_X4_shutsOut
set_option maxRecDepth 20000 in
theorem ggX9_pruneShard_X2_addSkipped : GoodIn wsX9_pruneShard wsX2_addSkipped := goodIn_r _ [45, 46, 105, 106, 107, 108, 109] (by decide +kernel) (by decide +kernel)
set_option maxRecDepth 20000 in
theorem gX9_pruneShard_X2_addSkipped : GoodIn wsX9_pruneShard (wsV RX9 334 RX2 yX2_addSkipped wsX2_addSkipped) := goodIn_app (goodIn_of _ (by decide +kernel)) ggX9_pruneShard_X2_addSkipped
set_option maxRecDepth 20000 in
theorem ggX9_pruneShard_X9_pruneBlock : GoodIn wsX9_pruneShard wsX9_pruneBlock := goodIn_r _ [50, 2, 1, 8, 9, 10, 6, 11, 12, 13, 14, 15, 16, 17, 18, 19, 20, 21, 22, 23, 24, 25, 51, 52, 53, 29, 54, 31, 55, 56, 57, 58, 59, 32, 33, 34, 35, 36, 37, 38, 39, 40, 60, 61, 62, 44, 63, 64, 65, 66, 67, 68, 69, 70, 71, 72, 73, 74, 75, 76, 77, 78, 79, 80, 81, 82, 83, 84, 85, 86, 87, 88, 89, 90, 91, 92, 93, 94, 95, 96, 97, 98, 99, 100, 101, 102, 103, 104, 105, 106, 107, 108, 109] (by decide +kernel) (by decide +kernel)
set_option maxRecDepth 20000 in
theorem gX9_pruneShard_X9_pruneBlock : GoodIn wsX9_pruneShard (wsV RX9 337 RX9 yX9_pruneBlock wsX9_pruneBlock) := goodIn_app (goodIn_of _ (by decide +kernel)) ggX9_pruneShard_X9_pruneBlock
theorem dX9_pruneShard_0 : decode cX9_pruneShard 0 = .ok (.iconst 0, 1) := by decide +kernel
theorem dX9_pruneShard_1 : decode cX9_pruneShard 1 = .ok (.istore 4, 2) := by decide +kernel
theorem dX9_pruneShard_3 : decode cX9_pruneShard 3 = .ok (.iload 4, 2) := by decide +kernel
theorem dX9_pruneShard_5 : decode cX9_pruneShard 5 = .ok (.iconst 4, 1) := by decide +kernel
theorem dX9_pruneShard_6 : decode cX9_pruneShard 6 = .ok (.if_icmp .ge 58, 3) := by decide +kernel
theorem dX9_pruneShard_9 : decode cX9_pruneShard 9 = .ok (.aload_n 0, 1) := by decide +kernel
theorem dX9_pruneShard_10 : decode cX9_pruneShard 10 = .ok (.iload 4, 2) := by decide +kernel
theorem dX9_pruneShard_12 : decode cX9_pruneShard 12 = .ok (.iload_n 2, 1) := by decide +kernel
theorem dX9_pruneShard_13 : decode cX9_pruneShard 13 = .ok (.iload_n 3, 1) := by decide +kernel
theorem dX9_pruneShard_14 : decode cX9_pruneShard 14 = .ok (.invokevirtual 324, 3) := by decide +kernel
theorem dX9_pruneShard_17 : decode cX9_pruneShard 17 = .ok (.ifCond .ne 6, 3) := by decide +kernel
theorem dX9_pruneShard_20 : decode cX9_pruneShard 20 = .ok (.goto 38, 3) := by decide +kernel
theorem dX9_pruneShard_23 : decode cX9_pruneShard 23 = .ok (.aload_n 0, 1) := by decide +kernel
theorem dX9_pruneShard_24 : decode cX9_pruneShard 24 = .ok (.getfield 54, 3) := by decide +kernel
theorem dX9_pruneShard_27 : decode cX9_pruneShard 27 = .ok (.aload_n 0, 1) := by decide +kernel
theorem dX9_pruneShard_28 : decode cX9_pruneShard 28 = .ok (.getfield 38, 3) := by decide +kernel
theorem dX9_pruneShard_31 : decode cX9_pruneShard 31 = .ok (.iload 4, 2) := by decide +kernel
theorem dX9_pruneShard_33 : decode cX9_pruneShard 33 = .ok (.invokevirtual 327, 3) := by decide +kernel
theorem dX9_pruneShard_36 : decode cX9_pruneShard 36 = .ok (.invokevirtual 330, 3) := by decide +kernel
theorem dX9_pruneShard_39 : decode cX9_pruneShard 39 = .ok (.ifCond .eq 10, 3) := by decide +kernel
theorem dX9_pruneShard_42 : decode cX9_pruneShard 42 = .ok (.aload_n 1, 1) := by decide +kernel
theorem dX9_pruneShard_43 : decode cX9_pruneShard 43 = .ok (.invokevirtual 334, 3) := by decide +kernel
theorem dX9_pruneShard_46 : decode cX9_pruneShard 46 = .ok (.goto 12, 3) := by decide +kernel
theorem dX9_pruneShard_49 : decode cX9_pruneShard 49 = .ok (.aload_n 0, 1) := by decide +kernel
theorem dX9_pruneShard_50 : decode cX9_pruneShard 50 = .ok (.aload_n 1, 1) := by decide +kernel
theorem dX9_pruneShard_51 : decode cX9_pruneShard 51 = .ok (.iload 4, 2) := by decide +kernel
theorem dX9_pruneShard_53 : decode cX9_pruneShard 53 = .ok (.iload_n 2, 1) := by decide +kernel
theorem dX9_pruneShard_54 : decode cX9_pruneShard 54 = .ok (.iload_n 3, 1) := by decide +kernel
theorem dX9_pruneShard_55 : decode cX9_pruneShard 55 = .ok (.invokevirtual 337, 3) := by decide +kernel
theorem dX9_pruneShard_58 : decode cX9_pruneShard 58 = .ok (.iinc 4 1, 3) := by decide +kernel
theorem dX9_pruneShard_61 : decode cX9_pruneShard 61 = .ok (.goto (-58), 3) := by decide +kernel
theorem dX9_pruneShard_64 : decode cX9_pruneShard 64 = .ok (.return_, 1) := by decide +kernel
set_option maxRecDepth 20000 in
theorem ggX9_endOfBlock_X0_size : GoodIn wsX9_endOfBlock wsX0_size := goodIn_r _ [10, 11, 21, 22, 23, 24, 25, 26] (by decide +kernel) (by decide +kernel)
set_option maxRecDepth 20000 in
theorem gX9_endOfBlock_X0_size : GoodIn wsX9_endOfBlock (wsV RX9 304 RX0 yX0_size wsX0_size) := goodIn_app (goodIn_of _ (by decide +kernel)) ggX9_endOfBlock_X0_size
theorem dX9_endOfBlock_0 : decode cX9_endOfBlock 0 = .ok (.iload_n 1, 1) := by decide +kernel
theorem dX9_endOfBlock_1 : decode cX9_endOfBlock 1 = .ok (.iconst 1, 1) := by decide +kernel
theorem dX9_endOfBlock_2 : decode cX9_endOfBlock 2 = .ok (.iadd, 1) := by decide +kernel
theorem dX9_endOfBlock_3 : decode cX9_endOfBlock 3 = .ok (.iconst 4, 1) := by decide +kernel
theorem dX9_endOfBlock_4 : decode cX9_endOfBlock 4 = .ok (.imul, 1) := by decide +kernel
theorem dX9_endOfBlock_5 : decode cX9_endOfBlock 5 = .ok (.aload_n 0, 1) := by decide +kernel
theorem dX9_endOfBlock_6 : decode cX9_endOfBlock 6 = .ok (.getfield 12, 3) := by decide +kernel
theorem dX9_endOfBlock_9 : decode cX9_endOfBlock 9 = .ok (.invokevirtual 304, 3) := by decide +kernel
theorem dX9_endOfBlock_12 : decode cX9_endOfBlock 12 = .ok (.invokestatic 341, 3) := by decide +kernel
theorem dX9_endOfBlock_15 : decode cX9_endOfBlock 15 = .ok (.ireturn, 1) := by decide +kernel
set_option maxRecDepth 20000 in
theorem ggX9_hasDocumentOfShard_X9_endOfBlock : GoodIn wsX9_hasDocumentOfShard wsX9_endOfBlock := goodIn_r _ [5, 6, 7, 8, 9, 10, 11, 12, 13, 14, 15, 16, 20, 21, 22, 23, 24, 25, 26, 27, 28, 29, 30, 31, 32, 33, 34] (by decide +kernel) (by decide +kernel)
set_option maxRecDepth 20000 in
theorem gX9_hasDocumentOfShard_X9_endOfBlock : GoodIn wsX9_hasDocumentOfShard (wsV RX9 346 RX9 yX9_endOfBlock wsX9_endOfBlock) := goodIn_app (goodIn_of _ (by decide +kernel)) ggX9_hasDocumentOfShard_X9_endOfBlock
set_option maxRecDepth 20000 in
theorem ggX9_hasDocumentOfShard_X9_isOfShard : GoodIn wsX9_hasDocumentOfShard wsX9_isOfShard := goodIn_r _ [19] (by decide +kernel) (by decide +kernel)
set_option maxRecDepth 20000 in
theorem gX9_hasDocumentOfShard_X9_isOfShard : GoodIn wsX9_hasDocumentOfShard (va_wsS RX9 305 yX9_isOfShard wsX9_isOfShard) := goodIn_app (goodIn_of _ (by decide +kernel)) ggX9_hasDocumentOfShard_X9_isOfShard
theorem dX9_hasDocumentOfShard_0 : decode cX9_hasDocumentOfShard 0 = .ok (.aload_n 0, 1) := by decide +kernel
theorem dX9_hasDocumentOfShard_1 : decode cX9_hasDocumentOfShard 1 = .ok (.iload_n 1, 1) := by decide +kernel
theorem dX9_hasDocumentOfShard_2 : decode cX9_hasDocumentOfShard 2 = .ok (.invokevirtual 346, 3) := by decide +kernel
theorem dX9_hasDocumentOfShard_5 : decode cX9_hasDocumentOfShard 5 = .ok (.istore 4, 2) := by decide +kernel
theorem dX9_hasDocumentOfShard_7 : decode cX9_hasDocumentOfShard 7 = .ok (.iload_n 1, 1) := by decide +kernel
theorem dX9_hasDocumentOfShard_8 : decode cX9_hasDocumentOfShard 8 = .ok (.iconst 4, 1) := by decide +kernel
theorem dX9_hasDocumentOfShard_9 : decode cX9_hasDocumentOfShard 9 = .ok (.imul, 1) := by decide +kernel
theorem dX9_hasDocumentOfShard_10 : decode cX9_hasDocumentOfShard 10 = .ok (.istore 5, 2) := by decide +kernel
theorem dX9_hasDocumentOfShard_12 : decode cX9_hasDocumentOfShard 12 = .ok (.iload 5, 2) := by decide +kernel
theorem dX9_hasDocumentOfShard_14 : decode cX9_hasDocumentOfShard 14 = .ok (.iload 4, 2) := by decide +kernel
theorem dX9_hasDocumentOfShard_16 : decode cX9_hasDocumentOfShard 16 = .ok (.if_icmp .ge 21, 3) := by decide +kernel
theorem dX9_hasDocumentOfShard_19 : decode cX9_hasDocumentOfShard 19 = .ok (.iload 5, 2) := by decide +kernel
theorem dX9_hasDocumentOfShard_21 : decode cX9_hasDocumentOfShard 21 = .ok (.iload_n 2, 1) := by decide +kernel
theorem dX9_hasDocumentOfShard_22 : decode cX9_hasDocumentOfShard 22 = .ok (.iload_n 3, 1) := by decide +kernel
theorem dX9_hasDocumentOfShard_23 : decode cX9_hasDocumentOfShard 23 = .ok (.invokestatic 305, 3) := by decide +kernel
theorem dX9_hasDocumentOfShard_26 : decode cX9_hasDocumentOfShard 26 = .ok (.ifCond .eq 5, 3) := by decide +kernel
theorem dX9_hasDocumentOfShard_29 : decode cX9_hasDocumentOfShard 29 = .ok (.iconst 1, 1) := by decide +kernel
theorem dX9_hasDocumentOfShard_30 : decode cX9_hasDocumentOfShard 30 = .ok (.ireturn, 1) := by decide +kernel
theorem dX9_hasDocumentOfShard_31 : decode cX9_hasDocumentOfShard 31 = .ok (.iinc 5 1, 3) := by decide +kernel
theorem dX9_hasDocumentOfShard_34 : decode cX9_hasDocumentOfShard 34 = .ok (.goto (-22), 3) := by decide +kernel
theorem dX9_hasDocumentOfShard_37 : decode cX9_hasDocumentOfShard 37 = .ok (.iconst 0, 1) := by decide +kernel
theorem dX9_hasDocumentOfShard_38 : decode cX9_hasDocumentOfShard 38 = .ok (.ireturn, 1) := by decide +kernel
set_option maxRecDepth 20000 in
theorem ggX9_pruneBlock_X9_endOfBlock : GoodIn wsX9_pruneBlock wsX9_endOfBlock := goodIn_r _ [7, 8, 9, 10, 11, 12, 13, 14, 15, 16, 17, 18, 66, 67, 68, 69, 70, 71, 72, 73, 74, 75, 76, 77, 78, 79, 80] (by decide +kernel) (by decide +kernel)
set_option maxRecDepth 20000 in
theorem gX9_pruneBlock_X9_endOfBlock : GoodIn wsX9_pruneBlock (wsV RX9 346 RX9 yX9_endOfBlock wsX9_endOfBlock) := goodIn_app (goodIn_of _ (by decide +kernel)) ggX9_pruneBlock_X9_endOfBlock
set_option maxRecDepth 20000 in
theorem ggX9_pruneBlock_X9_isOfShard : GoodIn wsX9_pruneBlock wsX9_isOfShard := goodIn_r _ [21] (by decide +kernel) (by decide +kernel)
set_option maxRecDepth 20000 in
theorem gX9_pruneBlock_X9_isOfShard : GoodIn wsX9_pruneBlock (va_wsS RX9 305 yX9_isOfShard wsX9_isOfShard) := goodIn_app (goodIn_of _ (by decide +kernel)) ggX9_pruneBlock_X9_isOfShard
set_option maxRecDepth 20000 in
theorem ggX9_pruneBlock_X3_matches : GoodIn wsX9_pruneBlock wsX3_matches := goodIn_r _ [26, 27, 28, 81, 82, 83] (by decide +kernel) (by decide +kernel)
set_option maxRecDepth 20000 in
theorem gX9_pruneBlock_X3_matches : GoodIn wsX9_pruneBlock (wsV RX9 349 RX3 yX3_matches wsX3_matches) := goodIn_app (goodIn_of _ (by decide +kernel)) ggX9_pruneBlock_X3_matches
set_option maxRecDepth 20000 in
theorem ggX9_pruneBlock_X3_documentBound : GoodIn wsX9_pruneBlock wsX3_documentBound := goodIn_r _ [32, 27, 28, 33, 81, 82, 83] (by decide +kernel) (by decide +kernel)
set_option maxRecDepth 20000 in
theorem gX9_pruneBlock_X3_documentBound : GoodIn wsX9_pruneBlock (wsV RX9 350 RX3 yX3_documentBound wsX3_documentBound) := goodIn_app (goodIn_of _ (by decide +kernel)) ggX9_pruneBlock_X3_documentBound
set_option maxRecDepth 20000 in
theorem ggX9_pruneBlock_X4_shutsOut : GoodIn wsX9_pruneBlock wsX4_shutsOut := goodIn_r _ [38, 39, 40, 41, 84, 85, 86, 87] (by decide +kernel) (by decide +kernel)
set_option maxRecDepth 20000 in
theorem gX9_pruneBlock_X4_shutsOut : GoodIn wsX9_pruneBlock (wsV RX9 330 RX4 yX4_shutsOut wsX4_shutsOut) := goodIn_app (goodIn_of _ (by decide +kernel)) ggX9_pruneBlock_X4_shutsOut
set_option maxRecDepth 20000 in
theorem ggX9_pruneBlock_X2_addPassed : GoodIn wsX9_pruneBlock wsX2_addPassed := goodIn_r _ [46, 47, 88, 89, 90, 91, 92] (by decide +kernel) (by decide +kernel)
set_option maxRecDepth 20000 in
theorem gX9_pruneBlock_X2_addPassed : GoodIn wsX9_pruneBlock (wsV RX9 353 RX2 yX2_addPassed wsX2_addPassed) := goodIn_app (goodIn_of _ (by decide +kernel)) ggX9_pruneBlock_X2_addPassed
set_option maxRecDepth 20000 in
theorem ggX9_pruneBlock_X2_addScored : GoodIn wsX9_pruneBlock wsX2_addScored := goodIn_r _ [51, 52, 88, 89, 90, 91, 92] (by decide +kernel) (by decide +kernel)
set_option maxRecDepth 20000 in
theorem gX9_pruneBlock_X2_addScored : GoodIn wsX9_pruneBlock (wsV RX9 314 RX2 yX2_addScored wsX2_addScored) := goodIn_app (goodIn_of _ (by decide +kernel)) ggX9_pruneBlock_X2_addScored
set_option maxRecDepth 20000 in
theorem ggX9_pruneBlock_X3_scoreOf : GoodIn wsX9_pruneBlock wsX3_scoreOf := goodIn_r _ [56, 27, 28, 81, 82, 83] (by decide +kernel) (by decide +kernel)
set_option maxRecDepth 20000 in
theorem gX9_pruneBlock_X3_scoreOf : GoodIn wsX9_pruneBlock (wsV RX9 356 RX3 yX3_scoreOf wsX3_scoreOf) := goodIn_app (goodIn_of _ (by decide +kernel)) ggX9_pruneBlock_X3_scoreOf
set_option maxRecDepth 20000 in
theorem ggX9_pruneBlock_X4_offer : GoodIn wsX9_pruneBlock wsX4_offer := goodIn_r _ [60, 39, 40, 61, 41, 62, 63, 64, 37, 65, 84, 85, 86, 87] (by decide +kernel) (by decide +kernel)
set_option maxRecDepth 20000 in
theorem gX9_pruneBlock_X4_offer : GoodIn wsX9_pruneBlock (wsV RX9 320 RX4 yX4_offer wsX4_offer) := goodIn_app (goodIn_of _ (by decide +kernel)) ggX9_pruneBlock_X4_offer
theorem dX9_pruneBlock_0 : decode cX9_pruneBlock 0 = .ok (.aload_n 0, 1) := by decide +kernel
theorem dX9_pruneBlock_1 : decode cX9_pruneBlock 1 = .ok (.iload_n 2, 1) := by decide +kernel
theorem dX9_pruneBlock_2 : decode cX9_pruneBlock 2 = .ok (.invokevirtual 346, 3) := by decide +kernel
theorem dX9_pruneBlock_5 : decode cX9_pruneBlock 5 = .ok (.istore 5, 2) := by decide +kernel
theorem dX9_pruneBlock_7 : decode cX9_pruneBlock 7 = .ok (.iload_n 2, 1) := by decide +kernel
theorem dX9_pruneBlock_8 : decode cX9_pruneBlock 8 = .ok (.iconst 4, 1) := by decide +kernel
theorem dX9_pruneBlock_9 : decode cX9_pruneBlock 9 = .ok (.imul, 1) := by decide +kernel
theorem dX9_pruneBlock_10 : decode cX9_pruneBlock 10 = .ok (.istore 6, 2) := by decide +kernel
theorem dX9_pruneBlock_12 : decode cX9_pruneBlock 12 = .ok (.iload 6, 2) := by decide +kernel
theorem dX9_pruneBlock_14 : decode cX9_pruneBlock 14 = .ok (.iload 5, 2) := by decide +kernel
theorem dX9_pruneBlock_16 : decode cX9_pruneBlock 16 = .ok (.if_icmp .ge 83, 3) := by decide +kernel
theorem dX9_pruneBlock_19 : decode cX9_pruneBlock 19 = .ok (.iload 6, 2) := by decide +kernel
theorem dX9_pruneBlock_21 : decode cX9_pruneBlock 21 = .ok (.iload_n 3, 1) := by decide +kernel
theorem dX9_pruneBlock_22 : decode cX9_pruneBlock 22 = .ok (.iload 4, 2) := by decide +kernel
theorem dX9_pruneBlock_24 : decode cX9_pruneBlock 24 = .ok (.invokestatic 305, 3) := by decide +kernel
theorem dX9_pruneBlock_27 : decode cX9_pruneBlock 27 = .ok (.ifCond .eq 66, 3) := by decide +kernel
theorem dX9_pruneBlock_30 : decode cX9_pruneBlock 30 = .ok (.aload_n 0, 1) := by decide +kernel
theorem dX9_pruneBlock_31 : decode cX9_pruneBlock 31 = .ok (.getfield 38, 3) := by decide +kernel
theorem dX9_pruneBlock_34 : decode cX9_pruneBlock 34 = .ok (.iload 6, 2) := by decide +kernel
theorem dX9_pruneBlock_36 : decode cX9_pruneBlock 36 = .ok (.invokevirtual 349, 3) := by decide +kernel
theorem dX9_pruneBlock_39 : decode cX9_pruneBlock 39 = .ok (.ifCond .ne 6, 3) := by decide +kernel
theorem dX9_pruneBlock_42 : decode cX9_pruneBlock 42 = .ok (.goto 51, 3) := by decide +kernel
theorem dX9_pruneBlock_45 : decode cX9_pruneBlock 45 = .ok (.aload_n 0, 1) := by decide +kernel
theorem dX9_pruneBlock_46 : decode cX9_pruneBlock 46 = .ok (.getfield 54, 3) := by decide +kernel
theorem dX9_pruneBlock_49 : decode cX9_pruneBlock 49 = .ok (.aload_n 0, 1) := by decide +kernel
theorem dX9_pruneBlock_50 : decode cX9_pruneBlock 50 = .ok (.getfield 38, 3) := by decide +kernel
theorem dX9_pruneBlock_53 : decode cX9_pruneBlock 53 = .ok (.iload 6, 2) := by decide +kernel
theorem dX9_pruneBlock_55 : decode cX9_pruneBlock 55 = .ok (.invokevirtual 350, 3) := by decide +kernel
theorem dX9_pruneBlock_58 : decode cX9_pruneBlock 58 = .ok (.invokevirtual 330, 3) := by decide +kernel
theorem dX9_pruneBlock_61 : decode cX9_pruneBlock 61 = .ok (.ifCond .eq 10, 3) := by decide +kernel
theorem dX9_pruneBlock_64 : decode cX9_pruneBlock 64 = .ok (.aload_n 1, 1) := by decide +kernel
theorem dX9_pruneBlock_65 : decode cX9_pruneBlock 65 = .ok (.invokevirtual 353, 3) := by decide +kernel
theorem dX9_pruneBlock_68 : decode cX9_pruneBlock 68 = .ok (.goto 25, 3) := by decide +kernel
theorem dX9_pruneBlock_71 : decode cX9_pruneBlock 71 = .ok (.aload_n 1, 1) := by decide +kernel
theorem dX9_pruneBlock_72 : decode cX9_pruneBlock 72 = .ok (.invokevirtual 314, 3) := by decide +kernel
theorem dX9_pruneBlock_75 : decode cX9_pruneBlock 75 = .ok (.aload_n 0, 1) := by decide +kernel
theorem dX9_pruneBlock_76 : decode cX9_pruneBlock 76 = .ok (.getfield 54, 3) := by decide +kernel
theorem dX9_pruneBlock_79 : decode cX9_pruneBlock 79 = .ok (.iload 6, 2) := by decide +kernel
theorem dX9_pruneBlock_81 : decode cX9_pruneBlock 81 = .ok (.aload_n 0, 1) := by decide +kernel
theorem dX9_pruneBlock_82 : decode cX9_pruneBlock 82 = .ok (.getfield 38, 3) := by decide +kernel
theorem dX9_pruneBlock_85 : decode cX9_pruneBlock 85 = .ok (.iload 6, 2) := by decide +kernel
theorem dX9_pruneBlock_87 : decode cX9_pruneBlock 87 = .ok (.invokevirtual 356, 3) := by decide +kernel
theorem dX9_pruneBlock_90 : decode cX9_pruneBlock 90 = .ok (.invokevirtual 320, 3) := by decide +kernel
theorem dX9_pruneBlock_93 : decode cX9_pruneBlock 93 = .ok (.iinc 6 1, 3) := by decide +kernel
theorem dX9_pruneBlock_96 : decode cX9_pruneBlock 96 = .ok (.goto (-84), 3) := by decide +kernel
theorem dX9_pruneBlock_99 : decode cX9_pruneBlock 99 = .ok (.return_, 1) := by decide +kernel
theorem dX9_logarithm_0 : decode cX9_logarithm 0 = .ok (.dload_n 0, 1) := by decide +kernel
theorem dX9_logarithm_1 : decode cX9_logarithm 1 = .ok (.dstore_n 2, 1) := by decide +kernel
theorem dX9_logarithm_2 : decode cX9_logarithm 2 = .ok (.iconst 0, 1) := by decide +kernel
theorem dX9_logarithm_3 : decode cX9_logarithm 3 = .ok (.istore 4, 2) := by decide +kernel
theorem dX9_logarithm_5 : decode cX9_logarithm 5 = .ok (.dload_n 2, 1) := by decide +kernel
theorem dX9_logarithm_6 : decode cX9_logarithm 6 = .ok (.ldc2_w 357, 3) := by decide +kernel
theorem dX9_logarithm_9 : decode cX9_logarithm 9 = .ok (.dcmp .l, 1) := by decide +kernel
theorem dX9_logarithm_10 : decode cX9_logarithm 10 = .ok (.ifCond .lt 23, 3) := by decide +kernel
theorem dX9_logarithm_13 : decode cX9_logarithm 13 = .ok (.iload 4, 2) := by decide +kernel
theorem dX9_logarithm_15 : decode cX9_logarithm 15 = .ok (.sipush 1100, 3) := by decide +kernel
theorem dX9_logarithm_18 : decode cX9_logarithm 18 = .ok (.if_icmp .ge 15, 3) := by decide +kernel
theorem dX9_logarithm_21 : decode cX9_logarithm 21 = .ok (.dload_n 2, 1) := by decide +kernel
theorem dX9_logarithm_22 : decode cX9_logarithm 22 = .ok (.ldc2_w 357, 3) := by decide +kernel
theorem dX9_logarithm_25 : decode cX9_logarithm 25 = .ok (.ddiv, 1) := by decide +kernel
theorem dX9_logarithm_26 : decode cX9_logarithm 26 = .ok (.dstore_n 2, 1) := by decide +kernel
theorem dX9_logarithm_27 : decode cX9_logarithm 27 = .ok (.iinc 4 1, 3) := by decide +kernel
theorem dX9_logarithm_30 : decode cX9_logarithm 30 = .ok (.goto (-25), 3) := by decide +kernel
theorem dX9_logarithm_33 : decode cX9_logarithm 33 = .ok (.dload_n 2, 1) := by decide +kernel
theorem dX9_logarithm_34 : decode cX9_logarithm 34 = .ok (.dconst 1, 1) := by decide +kernel
theorem dX9_logarithm_35 : decode cX9_logarithm 35 = .ok (.dsub, 1) := by decide +kernel
theorem dX9_logarithm_36 : decode cX9_logarithm 36 = .ok (.dload_n 2, 1) := by decide +kernel
theorem dX9_logarithm_37 : decode cX9_logarithm 37 = .ok (.dconst 1, 1) := by decide +kernel
theorem dX9_logarithm_38 : decode cX9_logarithm 38 = .ok (.dadd, 1) := by decide +kernel
theorem dX9_logarithm_39 : decode cX9_logarithm 39 = .ok (.ddiv, 1) := by decide +kernel
theorem dX9_logarithm_40 : decode cX9_logarithm 40 = .ok (.dstore 5, 2) := by decide +kernel
theorem dX9_logarithm_42 : decode cX9_logarithm 42 = .ok (.dload 5, 2) := by decide +kernel
theorem dX9_logarithm_44 : decode cX9_logarithm 44 = .ok (.dstore 7, 2) := by decide +kernel
theorem dX9_logarithm_46 : decode cX9_logarithm 46 = .ok (.dconst 0, 1) := by decide +kernel
theorem dX9_logarithm_47 : decode cX9_logarithm 47 = .ok (.dstore 9, 2) := by decide +kernel
theorem dX9_logarithm_49 : decode cX9_logarithm 49 = .ok (.iconst 1, 1) := by decide +kernel
theorem dX9_logarithm_50 : decode cX9_logarithm 50 = .ok (.istore 11, 2) := by decide +kernel
theorem dX9_logarithm_52 : decode cX9_logarithm 52 = .ok (.iload 11, 2) := by decide +kernel
theorem dX9_logarithm_54 : decode cX9_logarithm 54 = .ok (.bipush 19, 2) := by decide +kernel
theorem dX9_logarithm_56 : decode cX9_logarithm 56 = .ok (.if_icmp .gt 30, 3) := by decide +kernel
theorem dX9_logarithm_59 : decode cX9_logarithm 59 = .ok (.dload 9, 2) := by decide +kernel
theorem dX9_logarithm_61 : decode cX9_logarithm 61 = .ok (.dload 7, 2) := by decide +kernel
theorem dX9_logarithm_63 : decode cX9_logarithm 63 = .ok (.iload 11, 2) := by decide +kernel
theorem dX9_logarithm_65 : decode cX9_logarithm 65 = .ok (.i2d, 1) := by decide +kernel
theorem dX9_logarithm_66 : decode cX9_logarithm 66 = .ok (.ddiv, 1) := by decide +kernel
theorem dX9_logarithm_67 : decode cX9_logarithm 67 = .ok (.dadd, 1) := by decide +kernel
theorem dX9_logarithm_68 : decode cX9_logarithm 68 = .ok (.dstore 9, 2) := by decide +kernel
theorem dX9_logarithm_70 : decode cX9_logarithm 70 = .ok (.dload 7, 2) := by decide +kernel
theorem dX9_logarithm_72 : decode cX9_logarithm 72 = .ok (.dload 5, 2) := by decide +kernel
theorem dX9_logarithm_74 : decode cX9_logarithm 74 = .ok (.dload 5, 2) := by decide +kernel
theorem dX9_logarithm_76 : decode cX9_logarithm 76 = .ok (.dmul, 1) := by decide +kernel
theorem dX9_logarithm_77 : decode cX9_logarithm 77 = .ok (.dmul, 1) := by decide +kernel
theorem dX9_logarithm_78 : decode cX9_logarithm 78 = .ok (.dstore 7, 2) := by decide +kernel
theorem dX9_logarithm_80 : decode cX9_logarithm 80 = .ok (.iinc 11 2, 3) := by decide +kernel
theorem dX9_logarithm_83 : decode cX9_logarithm 83 = .ok (.goto (-31), 3) := by decide +kernel
theorem dX9_logarithm_86 : decode cX9_logarithm 86 = .ok (.ldc2_w 357, 3) := by decide +kernel
theorem dX9_logarithm_89 : decode cX9_logarithm 89 = .ok (.dload 9, 2) := by decide +kernel
theorem dX9_logarithm_91 : decode cX9_logarithm 91 = .ok (.dmul, 1) := by decide +kernel
theorem dX9_logarithm_92 : decode cX9_logarithm 92 = .ok (.iload 4, 2) := by decide +kernel
theorem dX9_logarithm_94 : decode cX9_logarithm 94 = .ok (.i2d, 1) := by decide +kernel
theorem dX9_logarithm_95 : decode cX9_logarithm 95 = .ok (.ldc2_w 359, 3) := by decide +kernel
theorem dX9_logarithm_98 : decode cX9_logarithm 98 = .ok (.dmul, 1) := by decide +kernel
theorem dX9_logarithm_99 : decode cX9_logarithm 99 = .ok (.dadd, 1) := by decide +kernel
theorem dX9_logarithm_100 : decode cX9_logarithm 100 = .ok (.dreturn, 1) := by decide +kernel
set_option maxRecDepth 20000 in
theorem ggX9_inverseFrequency_X9_logarithm : GoodIn wsX9_inverseFrequency wsX9_logarithm := goodIn_r _ [5, 6, 7] (by decide +kernel) (by decide +kernel)
set_option maxRecDepth 20000 in
theorem gX9_inverseFrequency_X9_logarithm : GoodIn wsX9_inverseFrequency (va_wsS RX9 245 yX9_logarithm wsX9_logarithm) := goodIn_app (goodIn_of _ (by decide +kernel)) ggX9_inverseFrequency_X9_logarithm
theorem dX9_inverseFrequency_0 : decode cX9_inverseFrequency 0 = .ok (.dconst 1, 1) := by decide +kernel
theorem dX9_inverseFrequency_1 : decode cX9_inverseFrequency 1 = .ok (.iload_n 0, 1) := by decide +kernel
theorem dX9_inverseFrequency_2 : decode cX9_inverseFrequency 2 = .ok (.iload_n 1, 1) := by decide +kernel
theorem dX9_inverseFrequency_3 : decode cX9_inverseFrequency 3 = .ok (.isub, 1) := by decide +kernel
theorem dX9_inverseFrequency_4 : decode cX9_inverseFrequency 4 = .ok (.i2d, 1) := by decide +kernel
theorem dX9_inverseFrequency_5 : decode cX9_inverseFrequency 5 = .ok (.ldc2_w 361, 3) := by decide +kernel
theorem dX9_inverseFrequency_8 : decode cX9_inverseFrequency 8 = .ok (.dadd, 1) := by decide +kernel
theorem dX9_inverseFrequency_9 : decode cX9_inverseFrequency 9 = .ok (.iload_n 1, 1) := by decide +kernel
theorem dX9_inverseFrequency_10 : decode cX9_inverseFrequency 10 = .ok (.i2d, 1) := by decide +kernel
theorem dX9_inverseFrequency_11 : decode cX9_inverseFrequency 11 = .ok (.ldc2_w 361, 3) := by decide +kernel
theorem dX9_inverseFrequency_14 : decode cX9_inverseFrequency 14 = .ok (.dadd, 1) := by decide +kernel
theorem dX9_inverseFrequency_15 : decode cX9_inverseFrequency 15 = .ok (.ddiv, 1) := by decide +kernel
theorem dX9_inverseFrequency_16 : decode cX9_inverseFrequency 16 = .ok (.dadd, 1) := by decide +kernel
theorem dX9_inverseFrequency_17 : decode cX9_inverseFrequency 17 = .ok (.invokestatic 245, 3) := by decide +kernel
theorem dX9_inverseFrequency_20 : decode cX9_inverseFrequency 20 = .ok (.dreturn, 1) := by decide +kernel
theorem dX9_wordPart_0 : decode cX9_wordPart 0 = .ok (.iload_n 2, 1) := by decide +kernel
theorem dX9_wordPart_1 : decode cX9_wordPart 1 = .ok (.ifCond .le 10, 3) := by decide +kernel
theorem dX9_wordPart_4 : decode cX9_wordPart 4 = .ok (.dload 4, 2) := by decide +kernel
theorem dX9_wordPart_6 : decode cX9_wordPart 6 = .ok (.dconst 0, 1) := by decide +kernel
theorem dX9_wordPart_7 : decode cX9_wordPart 7 = .ok (.dcmp .l, 1) := by decide +kernel
theorem dX9_wordPart_8 : decode cX9_wordPart 8 = .ok (.ifCond .gt 5, 3) := by decide +kernel
theorem dX9_wordPart_11 : decode cX9_wordPart 11 = .ok (.dconst 0, 1) := by decide +kernel
theorem dX9_wordPart_12 : decode cX9_wordPart 12 = .ok (.dreturn, 1) := by decide +kernel
theorem dX9_wordPart_13 : decode cX9_wordPart 13 = .ok (.ldc2_w 363, 3) := by decide +kernel
theorem dX9_wordPart_16 : decode cX9_wordPart 16 = .ok (.dstore 6, 2) := by decide +kernel
theorem dX9_wordPart_18 : decode cX9_wordPart 18 = .ok (.ldc2_w 365, 3) := by decide +kernel
theorem dX9_wordPart_21 : decode cX9_wordPart 21 = .ok (.dstore 8, 2) := by decide +kernel
theorem dX9_wordPart_23 : decode cX9_wordPart 23 = .ok (.dload_n 0, 1) := by decide +kernel
theorem dX9_wordPart_24 : decode cX9_wordPart 24 = .ok (.iload_n 2, 1) := by decide +kernel
theorem dX9_wordPart_25 : decode cX9_wordPart 25 = .ok (.i2d, 1) := by decide +kernel
theorem dX9_wordPart_26 : decode cX9_wordPart 26 = .ok (.dload 6, 2) := by decide +kernel
theorem dX9_wordPart_28 : decode cX9_wordPart 28 = .ok (.dconst 1, 1) := by decide +kernel
theorem dX9_wordPart_29 : decode cX9_wordPart 29 = .ok (.dadd, 1) := by decide +kernel
theorem dX9_wordPart_30 : decode cX9_wordPart 30 = .ok (.dmul, 1) := by decide +kernel
theorem dX9_wordPart_31 : decode cX9_wordPart 31 = .ok (.dmul, 1) := by decide +kernel
theorem dX9_wordPart_32 : decode cX9_wordPart 32 = .ok (.iload_n 2, 1) := by decide +kernel
theorem dX9_wordPart_33 : decode cX9_wordPart 33 = .ok (.i2d, 1) := by decide +kernel
theorem dX9_wordPart_34 : decode cX9_wordPart 34 = .ok (.dload 6, 2) := by decide +kernel
theorem dX9_wordPart_36 : decode cX9_wordPart 36 = .ok (.dconst 1, 1) := by decide +kernel
theorem dX9_wordPart_37 : decode cX9_wordPart 37 = .ok (.dload 8, 2) := by decide +kernel
theorem dX9_wordPart_39 : decode cX9_wordPart 39 = .ok (.dsub, 1) := by decide +kernel
theorem dX9_wordPart_40 : decode cX9_wordPart 40 = .ok (.dload 8, 2) := by decide +kernel
theorem dX9_wordPart_42 : decode cX9_wordPart 42 = .ok (.iload_n 3, 1) := by decide +kernel
theorem dX9_wordPart_43 : decode cX9_wordPart 43 = .ok (.i2d, 1) := by decide +kernel
theorem dX9_wordPart_44 : decode cX9_wordPart 44 = .ok (.dload 4, 2) := by decide +kernel
theorem dX9_wordPart_46 : decode cX9_wordPart 46 = .ok (.ddiv, 1) := by decide +kernel
theorem dX9_wordPart_47 : decode cX9_wordPart 47 = .ok (.dmul, 1) := by decide +kernel
theorem dX9_wordPart_48 : decode cX9_wordPart 48 = .ok (.dadd, 1) := by decide +kernel
theorem dX9_wordPart_49 : decode cX9_wordPart 49 = .ok (.dmul, 1) := by decide +kernel
theorem dX9_wordPart_50 : decode cX9_wordPart 50 = .ok (.dadd, 1) := by decide +kernel
theorem dX9_wordPart_51 : decode cX9_wordPart 51 = .ok (.ddiv, 1) := by decide +kernel
theorem dX9_wordPart_52 : decode cX9_wordPart 52 = .ok (.dreturn, 1) := by decide +kernel
theorem dX9_greater_0 : decode cX9_greater 0 = .ok (.fload_n 0, 1) := by decide +kernel
theorem dX9_greater_1 : decode cX9_greater 1 = .ok (.fload_n 1, 1) := by decide +kernel
theorem dX9_greater_2 : decode cX9_greater 2 = .ok (.fcmp .l, 1) := by decide +kernel
theorem dX9_greater_3 : decode cX9_greater 3 = .ok (.ifCond .le 5, 3) := by decide +kernel
theorem dX9_greater_6 : decode cX9_greater 6 = .ok (.fload_n 0, 1) := by decide +kernel
theorem dX9_greater_7 : decode cX9_greater 7 = .ok (.freturn, 1) := by decide +kernel
theorem dX9_greater_8 : decode cX9_greater 8 = .ok (.fload_n 1, 1) := by decide +kernel
theorem dX9_greater_9 : decode cX9_greater 9 = .ok (.fload_n 0, 1) := by decide +kernel
theorem dX9_greater_10 : decode cX9_greater 10 = .ok (.fcmp .l, 1) := by decide +kernel
theorem dX9_greater_11 : decode cX9_greater 11 = .ok (.ifCond .le 5, 3) := by decide +kernel
theorem dX9_greater_14 : decode cX9_greater 14 = .ok (.fload_n 1, 1) := by decide +kernel
theorem dX9_greater_15 : decode cX9_greater 15 = .ok (.freturn, 1) := by decide +kernel
theorem dX9_greater_16 : decode cX9_greater 16 = .ok (.fload_n 0, 1) := by decide +kernel
theorem dX9_greater_17 : decode cX9_greater 17 = .ok (.fconst 0, 1) := by decide +kernel
theorem dX9_greater_18 : decode cX9_greater 18 = .ok (.fcmp .l, 1) := by decide +kernel
theorem dX9_greater_19 : decode cX9_greater 19 = .ok (.ifCond .ne 9, 3) := by decide +kernel
theorem dX9_greater_22 : decode cX9_greater 22 = .ok (.fload_n 0, 1) := by decide +kernel
theorem dX9_greater_23 : decode cX9_greater 23 = .ok (.fload_n 1, 1) := by decide +kernel
theorem dX9_greater_24 : decode cX9_greater 24 = .ok (.fadd, 1) := by decide +kernel
theorem dX9_greater_25 : decode cX9_greater 25 = .ok (.goto 4, 3) := by decide +kernel
theorem dX9_greater_28 : decode cX9_greater 28 = .ok (.fload_n 0, 1) := by decide +kernel
theorem dX9_greater_29 : decode cX9_greater 29 = .ok (.freturn, 1) := by decide +kernel
theorem dX10_init_0 : decode cX10_init 0 = .ok (.aload_n 0, 1) := by decide +kernel
theorem dX10_init_1 : decode cX10_init 1 = .ok (.invokespecial 1, 3) := by decide +kernel
theorem dX10_init_4 : decode cX10_init 4 = .ok (.aload_n 0, 1) := by decide +kernel
theorem dX10_init_5 : decode cX10_init 5 = .ok (.sipush 192, 3) := by decide +kernel
theorem dX10_init_8 : decode cX10_init 8 = .ok (.newarray .int, 2) := by decide +kernel
theorem dX10_init_10 : decode cX10_init 10 = .ok (.putfield 7, 3) := by decide +kernel
theorem dX10_init_13 : decode cX10_init 13 = .ok (.aload_n 0, 1) := by decide +kernel
theorem dX10_init_14 : decode cX10_init 14 = .ok (.sipush 192, 3) := by decide +kernel
theorem dX10_init_17 : decode cX10_init 17 = .ok (.newarray .float, 2) := by decide +kernel
theorem dX10_init_19 : decode cX10_init 19 = .ok (.putfield 13, 3) := by decide +kernel
theorem dX10_init_22 : decode cX10_init 22 = .ok (.aload_n 0, 1) := by decide +kernel
theorem dX10_init_23 : decode cX10_init 23 = .ok (.bipush 16, 2) := by decide +kernel
theorem dX10_init_25 : decode cX10_init 25 = .ok (.newarray .int, 2) := by decide +kernel
theorem dX10_init_27 : decode cX10_init 27 = .ok (.putfield 17, 3) := by decide +kernel
theorem dX10_init_30 : decode cX10_init 30 = .ok (.aload_n 0, 1) := by decide +kernel
theorem dX10_init_31 : decode cX10_init 31 = .ok (.sipush 256, 3) := by decide +kernel
theorem dX10_init_34 : decode cX10_init 34 = .ok (.newarray .float, 2) := by decide +kernel
theorem dX10_init_36 : decode cX10_init 36 = .ok (.putfield 20, 3) := by decide +kernel
theorem dX10_init_39 : decode cX10_init 39 = .ok (.aload_n 0, 1) := by decide +kernel
theorem dX10_init_40 : decode cX10_init 40 = .ok (.bipush 16, 2) := by decide +kernel
theorem dX10_init_42 : decode cX10_init 42 = .ok (.newarray .float, 2) := by decide +kernel
theorem dX10_init_44 : decode cX10_init 44 = .ok (.putfield 23, 3) := by decide +kernel
theorem dX10_init_47 : decode cX10_init 47 = .ok (.aload_n 0, 1) := by decide +kernel
theorem dX10_init_48 : decode cX10_init 48 = .ok (.iconst 4, 1) := by decide +kernel
theorem dX10_init_49 : decode cX10_init 49 = .ok (.newarray .int, 2) := by decide +kernel
theorem dX10_init_51 : decode cX10_init 51 = .ok (.putfield 26, 3) := by decide +kernel
theorem dX10_init_54 : decode cX10_init 54 = .ok (.aload_n 0, 1) := by decide +kernel
theorem dX10_init_55 : decode cX10_init 55 = .ok (.iconst 4, 1) := by decide +kernel
theorem dX10_init_56 : decode cX10_init 56 = .ok (.newarray .int, 2) := by decide +kernel
theorem dX10_init_58 : decode cX10_init 58 = .ok (.putfield 29, 3) := by decide +kernel
theorem dX10_init_61 : decode cX10_init 61 = .ok (.aload_n 0, 1) := by decide +kernel
theorem dX10_init_62 : decode cX10_init 62 = .ok (.iconst 4, 1) := by decide +kernel
theorem dX10_init_63 : decode cX10_init 63 = .ok (.newarray .int, 2) := by decide +kernel
theorem dX10_init_65 : decode cX10_init 65 = .ok (.putfield 32, 3) := by decide +kernel
theorem dX10_init_68 : decode cX10_init 68 = .ok (.aload_n 0, 1) := by decide +kernel
theorem dX10_init_69 : decode cX10_init 69 = .ok (.bipush 12, 2) := by decide +kernel
theorem dX10_init_71 : decode cX10_init 71 = .ok (.newarray .float, 2) := by decide +kernel
theorem dX10_init_73 : decode cX10_init 73 = .ok (.putfield 35, 3) := by decide +kernel
theorem dX10_init_76 : decode cX10_init 76 = .ok (.aload_n 0, 1) := by decide +kernel
theorem dX10_init_77 : decode cX10_init 77 = .ok (.iconst 3, 1) := by decide +kernel
theorem dX10_init_78 : decode cX10_init 78 = .ok (.newarray .boolean, 2) := by decide +kernel
theorem dX10_init_80 : decode cX10_init 80 = .ok (.putfield 38, 3) := by decide +kernel
theorem dX10_init_83 : decode cX10_init 83 = .ok (.aload_n 0, 1) := by decide +kernel
theorem dX10_init_84 : decode cX10_init 84 = .ok (.iconst 3, 1) := by decide +kernel
theorem dX10_init_85 : decode cX10_init 85 = .ok (.newarray .int, 2) := by decide +kernel
theorem dX10_init_87 : decode cX10_init 87 = .ok (.putfield 42, 3) := by decide +kernel
theorem dX10_init_90 : decode cX10_init 90 = .ok (.aload_n 0, 1) := by decide +kernel
theorem dX10_init_91 : decode cX10_init 91 = .ok (.bipush 60, 2) := by decide +kernel
theorem dX10_init_93 : decode cX10_init 93 = .ok (.newarray .int, 2) := by decide +kernel
theorem dX10_init_95 : decode cX10_init 95 = .ok (.putfield 45, 3) := by decide +kernel
theorem dX10_init_98 : decode cX10_init 98 = .ok (.aload_n 0, 1) := by decide +kernel
theorem dX10_init_99 : decode cX10_init 99 = .ok (.bipush 60, 2) := by decide +kernel
theorem dX10_init_101 : decode cX10_init 101 = .ok (.newarray .double, 2) := by decide +kernel
theorem dX10_init_103 : decode cX10_init 103 = .ok (.putfield 48, 3) := by decide +kernel
theorem dX10_init_106 : decode cX10_init 106 = .ok (.aload_n 0, 1) := by decide +kernel
theorem dX10_init_107 : decode cX10_init 107 = .ok (.bipush 9, 2) := by decide +kernel
theorem dX10_init_109 : decode cX10_init 109 = .ok (.newarray .int, 2) := by decide +kernel
theorem dX10_init_111 : decode cX10_init 111 = .ok (.putfield 52, 3) := by decide +kernel
theorem dX10_init_114 : decode cX10_init 114 = .ok (.aload_n 0, 1) := by decide +kernel
theorem dX10_init_115 : decode cX10_init 115 = .ok (.bipush 21, 2) := by decide +kernel
theorem dX10_init_117 : decode cX10_init 117 = .ok (.newarray .int, 2) := by decide +kernel
theorem dX10_init_119 : decode cX10_init 119 = .ok (.putfield 55, 3) := by decide +kernel
theorem dX10_init_122 : decode cX10_init 122 = .ok (.aload_n 0, 1) := by decide +kernel
theorem dX10_init_123 : decode cX10_init 123 = .ok (.bipush 21, 2) := by decide +kernel
theorem dX10_init_125 : decode cX10_init 125 = .ok (.newarray .double, 2) := by decide +kernel
theorem dX10_init_127 : decode cX10_init 127 = .ok (.putfield 58, 3) := by decide +kernel
theorem dX10_init_130 : decode cX10_init 130 = .ok (.aload_n 0, 1) := by decide +kernel
theorem dX10_init_131 : decode cX10_init 131 = .ok (.bipush 21, 2) := by decide +kernel
theorem dX10_init_133 : decode cX10_init 133 = .ok (.newarray .int, 2) := by decide +kernel
theorem dX10_init_135 : decode cX10_init 135 = .ok (.putfield 61, 3) := by decide +kernel
theorem dX10_init_138 : decode cX10_init 138 = .ok (.aload_n 0, 1) := by decide +kernel
theorem dX10_init_139 : decode cX10_init 139 = .ok (.bipush 21, 2) := by decide +kernel
theorem dX10_init_141 : decode cX10_init 141 = .ok (.newarray .double, 2) := by decide +kernel
theorem dX10_init_143 : decode cX10_init 143 = .ok (.putfield 64, 3) := by decide +kernel
theorem dX10_init_146 : decode cX10_init 146 = .ok (.aload_n 0, 1) := by decide +kernel
theorem dX10_init_147 : decode cX10_init 147 = .ok (.bipush 17, 2) := by decide +kernel
theorem dX10_init_149 : decode cX10_init 149 = .ok (.newarray .int, 2) := by decide +kernel
theorem dX10_init_151 : decode cX10_init 151 = .ok (.putfield 67, 3) := by decide +kernel
theorem dX10_init_154 : decode cX10_init 154 = .ok (.aload_n 0, 1) := by decide +kernel
theorem dX10_init_155 : decode cX10_init 155 = .ok (.bipush 17, 2) := by decide +kernel
theorem dX10_init_157 : decode cX10_init 157 = .ok (.newarray .double, 2) := by decide +kernel
theorem dX10_init_159 : decode cX10_init 159 = .ok (.putfield 70, 3) := by decide +kernel
theorem dX10_init_162 : decode cX10_init 162 = .ok (.return_, 1) := by decide +kernel
theorem dX10_thrown_0 : decode cX10_thrown 0 = .ok (.aload_n 0, 1) := by decide +kernel
theorem dX10_thrown_1 : decode cX10_thrown 1 = .ok (.getfield 73, 3) := by decide +kernel
theorem dX10_thrown_4 : decode cX10_thrown 4 = .ok (.ireturn, 1) := by decide +kernel
theorem dX10_fail_0 : decode cX10_fail 0 = .ok (.aload_n 0, 1) := by decide +kernel
theorem dX10_fail_1 : decode cX10_fail 1 = .ok (.iload_n 1, 1) := by decide +kernel
theorem dX10_fail_2 : decode cX10_fail 2 = .ok (.putfield 73, 3) := by decide +kernel
theorem dX10_fail_5 : decode cX10_fail 5 = .ok (.iconst 0, 1) := by decide +kernel
theorem dX10_fail_6 : decode cX10_fail 6 = .ok (.ireturn, 1) := by decide +kernel
theorem dX10_outside_0 : decode cX10_outside 0 = .ok (.iload_n 0, 1) := by decide +kernel
theorem dX10_outside_1 : decode cX10_outside 1 = .ok (.ifCond .lt 8, 3) := by decide +kernel
theorem dX10_outside_4 : decode cX10_outside 4 = .ok (.iload_n 0, 1) := by decide +kernel
theorem dX10_outside_5 : decode cX10_outside 5 = .ok (.iload_n 1, 1) := by decide +kernel
theorem dX10_outside_6 : decode cX10_outside 6 = .ok (.if_icmp .lt 7, 3) := by decide +kernel
theorem dX10_outside_9 : decode cX10_outside 9 = .ok (.iconst 1, 1) := by decide +kernel
theorem dX10_outside_10 : decode cX10_outside 10 = .ok (.goto 4, 3) := by decide +kernel
theorem dX10_outside_13 : decode cX10_outside 13 = .ok (.iconst 0, 1) := by decide +kernel
theorem dX10_outside_14 : decode cX10_outside 14 = .ok (.ireturn, 1) := by decide +kernel
theorem dX10_isGood_0 : decode cX10_isGood 0 = .ok (.fload_n 0, 1) := by decide +kernel
theorem dX10_isGood_1 : decode cX10_isGood 1 = .ok (.ldc 77, 2) := by decide +kernel
theorem dX10_isGood_3 : decode cX10_isGood 3 = .ok (.fcmp .l, 1) := by decide +kernel
theorem dX10_isGood_4 : decode cX10_isGood 4 = .ok (.ifCond .lt 14, 3) := by decide +kernel
theorem dX10_isGood_7 : decode cX10_isGood 7 = .ok (.fload_n 0, 1) := by decide +kernel
theorem dX10_isGood_8 : decode cX10_isGood 8 = .ok (.ldc 78, 2) := by decide +kernel
theorem dX10_isGood_10 : decode cX10_isGood 10 = .ok (.fcmp .g, 1) := by decide +kernel
theorem dX10_isGood_11 : decode cX10_isGood 11 = .ok (.ifCond .gt 7, 3) := by decide +kernel
theorem dX10_isGood_14 : decode cX10_isGood 14 = .ok (.iconst 1, 1) := by decide +kernel
theorem dX10_isGood_15 : decode cX10_isGood 15 = .ok (.goto 4, 3) := by decide +kernel
theorem dX10_isGood_18 : decode cX10_isGood 18 = .ok (.iconst 0, 1) := by decide +kernel
theorem dX10_isGood_19 : decode cX10_isGood 19 = .ok (.ireturn, 1) := by decide +kernel
theorem dX10_lose_0 : decode cX10_lose 0 = .ok (.aload_n 0, 1) := by decide +kernel
theorem dX10_lose_1 : decode cX10_lose 1 = .ok (.iconst 0, 1) := by decide +kernel
theorem dX10_lose_2 : decode cX10_lose 2 = .ok (.putfield 79, 3) := by decide +kernel
theorem dX10_lose_5 : decode cX10_lose 5 = .ok (.aload_n 0, 1) := by decide +kernel
theorem dX10_lose_6 : decode cX10_lose 6 = .ok (.getfield 38, 3) := by decide +kernel
theorem dX10_lose_9 : decode cX10_lose 9 = .ok (.iload_n 1, 1) := by decide +kernel
theorem dX10_lose_10 : decode cX10_lose 10 = .ok (.iconst 0, 1) := by decide +kernel
theorem dX10_lose_11 : decode cX10_lose 11 = .ok (.bastore, 1) := by decide +kernel
theorem dX10_lose_12 : decode cX10_lose 12 = .ok (.return_, 1) := by decide +kernel
set_option maxRecDepth 20000 in
theorem ggX10_loseAll_X10_lose : GoodIn wsX10_loseAll wsX10_lose := goodIn_r _ [5, 6, 7, 8, 9, 10, 11, 12, 13, 14, 15, 16, 17, 18, 19, 20, 21, 22, 23, 24, 25, 26, 27, 28, 29, 30, 31, 32, 33, 34, 35, 36, 37, 38, 39] (by decide +kernel) (by decide +kernel)
set_option maxRecDepth 20000 in
theorem gX10_loseAll_X10_lose : GoodIn wsX10_loseAll (wsV RX10 82 RX10 yX10_lose wsX10_lose) := goodIn_app (goodIn_of _ (by decide +kernel)) ggX10_loseAll_X10_lose
theorem dX10_loseAll_0 : decode cX10_loseAll 0 = .ok (.iconst 0, 1) := by decide +kernel
theorem dX10_loseAll_1 : decode cX10_loseAll 1 = .ok (.istore_n 1, 1) := by decide +kernel
theorem dX10_loseAll_2 : decode cX10_loseAll 2 = .ok (.iload_n 1, 1) := by decide +kernel
theorem dX10_loseAll_3 : decode cX10_loseAll 3 = .ok (.iconst 3, 1) := by decide +kernel
theorem dX10_loseAll_4 : decode cX10_loseAll 4 = .ok (.if_icmp .ge 14, 3) := by decide +kernel
theorem dX10_loseAll_7 : decode cX10_loseAll 7 = .ok (.aload_n 0, 1) := by decide +kernel
theorem dX10_loseAll_8 : decode cX10_loseAll 8 = .ok (.iload_n 1, 1) := by decide +kernel
theorem dX10_loseAll_9 : decode cX10_loseAll 9 = .ok (.invokevirtual 82, 3) := by decide +kernel
theorem dX10_loseAll_12 : decode cX10_loseAll 12 = .ok (.iinc 1 1, 3) := by decide +kernel
theorem dX10_loseAll_15 : decode cX10_loseAll 15 = .ok (.goto (-13), 3) := by decide +kernel
theorem dX10_loseAll_18 : decode cX10_loseAll 18 = .ok (.return_, 1) := by decide +kernel
set_option maxRecDepth 20000 in
theorem ggX10_document_X10_loseAll : GoodIn wsX10_document wsX10_loseAll := goodIn_r _ [7, 8, 9, 10, 6, 11, 12, 13, 14, 15, 16, 17, 18, 19, 20, 21, 22, 23, 24, 25, 26, 27, 28, 29, 30, 31, 32, 33, 34, 35, 36, 37, 38, 39, 40, 41, 42, 43, 44, 45] (by decide +kernel) (by decide +kernel)
set_option maxRecDepth 20000 in
theorem gX10_document_X10_loseAll : GoodIn wsX10_document (wsV RX10 89 RX10 yX10_loseAll wsX10_loseAll) := goodIn_app (goodIn_of _ (by decide +kernel)) ggX10_document_X10_loseAll
theorem dX10_document_0 : decode cX10_document 0 = .ok (.aload_n 0, 1) := by decide +kernel
theorem dX10_document_1 : decode cX10_document 1 = .ok (.aload_n 0, 1) := by decide +kernel
theorem dX10_document_2 : decode cX10_document 2 = .ok (.getfield 86, 3) := by decide +kernel
theorem dX10_document_5 : decode cX10_document 5 = .ok (.bipush 16, 2) := by decide +kernel
theorem dX10_document_7 : decode cX10_document 7 = .ok (.if_icmp .ne 7, 3) := by decide +kernel
theorem dX10_document_10 : decode cX10_document 10 = .ok (.iconst 1, 1) := by decide +kernel
theorem dX10_document_11 : decode cX10_document 11 = .ok (.goto 4, 3) := by decide +kernel
theorem dX10_document_14 : decode cX10_document 14 = .ok (.iconst 0, 1) := by decide +kernel
theorem dX10_document_15 : decode cX10_document 15 = .ok (.putfield 73, 3) := by decide +kernel
theorem dX10_document_18 : decode cX10_document 18 = .ok (.aload_n 0, 1) := by decide +kernel
theorem dX10_document_19 : decode cX10_document 19 = .ok (.getfield 73, 3) := by decide +kernel
theorem dX10_document_22 : decode cX10_document 22 = .ok (.ifCond .le 5, 3) := by decide +kernel
theorem dX10_document_25 : decode cX10_document 25 = .ok (.iconst 0, 1) := by decide +kernel
theorem dX10_document_26 : decode cX10_document 26 = .ok (.ireturn, 1) := by decide +kernel
theorem dX10_document_27 : decode cX10_document 27 = .ok (.aload_n 0, 1) := by decide +kernel
theorem dX10_document_28 : decode cX10_document 28 = .ok (.dup, 1) := by decide +kernel
theorem dX10_document_29 : decode cX10_document 29 = .ok (.getfield 86, 3) := by decide +kernel
theorem dX10_document_32 : decode cX10_document 32 = .ok (.iconst 1, 1) := by decide +kernel
theorem dX10_document_33 : decode cX10_document 33 = .ok (.iadd, 1) := by decide +kernel
theorem dX10_document_34 : decode cX10_document 34 = .ok (.putfield 86, 3) := by decide +kernel
theorem dX10_document_37 : decode cX10_document 37 = .ok (.aload_n 0, 1) := by decide +kernel
theorem dX10_document_38 : decode cX10_document 38 = .ok (.invokevirtual 89, 3) := by decide +kernel
theorem dX10_document_41 : decode cX10_document 41 = .ok (.aload_n 0, 1) := by decide +kernel
theorem dX10_document_42 : decode cX10_document 42 = .ok (.getfield 86, 3) := by decide +kernel
theorem dX10_document_45 : decode cX10_document 45 = .ok (.iconst 1, 1) := by decide +kernel
theorem dX10_document_46 : decode cX10_document 46 = .ok (.isub, 1) := by decide +kernel
theorem dX10_document_47 : decode cX10_document 47 = .ok (.ireturn, 1) := by decide +kernel
set_option maxRecDepth 20000 in
theorem ggX10_count_X10_outside : GoodIn wsX10_count wsX10_outside := goodIn_r _ [7] (by decide +kernel) (by decide +kernel)
set_option maxRecDepth 20000 in
theorem gX10_count_X10_outside : GoodIn wsX10_count (va_wsS RX10 92 yX10_outside wsX10_outside) := goodIn_app (goodIn_of _ (by decide +kernel)) ggX10_count_X10_outside
set_option maxRecDepth 20000 in
theorem ggX10_count_X10_loseAll : GoodIn wsX10_count wsX10_loseAll := goodIn_r _ [11, 12, 13, 14, 6, 15, 16, 17, 18, 19, 20, 21, 22, 23, 24, 25, 26, 27, 28, 29, 30, 31, 32, 33, 34, 35, 36, 37, 38, 39, 40, 41, 42, 43, 44, 45, 46, 47, 48, 49] (by decide +kernel) (by decide +kernel)
set_option maxRecDepth 20000 in
theorem gX10_count_X10_loseAll : GoodIn wsX10_count (wsV RX10 89 RX10 yX10_loseAll wsX10_loseAll) := goodIn_app (goodIn_of _ (by decide +kernel)) ggX10_count_X10_loseAll
theorem dX10_count_0 : decode cX10_count 0 = .ok (.aload_n 0, 1) := by decide +kernel
theorem dX10_count_1 : decode cX10_count 1 = .ok (.iload_n 1, 1) := by decide +kernel
theorem dX10_count_2 : decode cX10_count 2 = .ok (.aload_n 0, 1) := by decide +kernel
theorem dX10_count_3 : decode cX10_count 3 = .ok (.getfield 86, 3) := by decide +kernel
theorem dX10_count_6 : decode cX10_count 6 = .ok (.invokestatic 92, 3) := by decide +kernel
theorem dX10_count_9 : decode cX10_count 9 = .ok (.ifCond .ne 12, 3) := by decide +kernel
theorem dX10_count_12 : decode cX10_count 12 = .ok (.iload_n 2, 1) := by decide +kernel
theorem dX10_count_13 : decode cX10_count 13 = .ok (.bipush 12, 2) := by decide +kernel
theorem dX10_count_15 : decode cX10_count 15 = .ok (.invokestatic 92, 3) := by decide +kernel
theorem dX10_count_18 : decode cX10_count 18 = .ok (.ifCond .eq 7, 3) := by decide +kernel
theorem dX10_count_21 : decode cX10_count 21 = .ok (.iconst 1, 1) := by decide +kernel
theorem dX10_count_22 : decode cX10_count 22 = .ok (.goto 25, 3) := by decide +kernel
theorem dX10_count_25 : decode cX10_count 25 = .ok (.aload_n 0, 1) := by decide +kernel
theorem dX10_count_26 : decode cX10_count 26 = .ok (.getfield 7, 3) := by decide +kernel
theorem dX10_count_29 : decode cX10_count 29 = .ok (.bipush 12, 2) := by decide +kernel
theorem dX10_count_31 : decode cX10_count 31 = .ok (.iload_n 1, 1) := by decide +kernel
theorem dX10_count_32 : decode cX10_count 32 = .ok (.imul, 1) := by decide +kernel
theorem dX10_count_33 : decode cX10_count 33 = .ok (.iload_n 2, 1) := by decide +kernel
theorem dX10_count_34 : decode cX10_count 34 = .ok (.iadd, 1) := by decide +kernel
theorem dX10_count_35 : decode cX10_count 35 = .ok (.iaload, 1) := by decide +kernel
theorem dX10_count_36 : decode cX10_count 36 = .ok (.sipush 1000, 3) := by decide +kernel
theorem dX10_count_39 : decode cX10_count 39 = .ok (.if_icmp .ne 7, 3) := by decide +kernel
theorem dX10_count_42 : decode cX10_count 42 = .ok (.iconst 2, 1) := by decide +kernel
theorem dX10_count_43 : decode cX10_count 43 = .ok (.goto 4, 3) := by decide +kernel
theorem dX10_count_46 : decode cX10_count 46 = .ok (.iconst 0, 1) := by decide +kernel
theorem dX10_count_47 : decode cX10_count 47 = .ok (.putfield 73, 3) := by decide +kernel
theorem dX10_count_50 : decode cX10_count 50 = .ok (.aload_n 0, 1) := by decide +kernel
theorem dX10_count_51 : decode cX10_count 51 = .ok (.getfield 73, 3) := by decide +kernel
theorem dX10_count_54 : decode cX10_count 54 = .ok (.ifCond .le 5, 3) := by decide +kernel
theorem dX10_count_57 : decode cX10_count 57 = .ok (.iconst 0, 1) := by decide +kernel
theorem dX10_count_58 : decode cX10_count 58 = .ok (.ireturn, 1) := by decide +kernel
theorem dX10_count_59 : decode cX10_count 59 = .ok (.aload_n 0, 1) := by decide +kernel
theorem dX10_count_60 : decode cX10_count 60 = .ok (.getfield 7, 3) := by decide +kernel
theorem dX10_count_63 : decode cX10_count 63 = .ok (.bipush 12, 2) := by decide +kernel
theorem dX10_count_65 : decode cX10_count 65 = .ok (.iload_n 1, 1) := by decide +kernel
theorem dX10_count_66 : decode cX10_count 66 = .ok (.imul, 1) := by decide +kernel
theorem dX10_count_67 : decode cX10_count 67 = .ok (.iload_n 2, 1) := by decide +kernel
theorem dX10_count_68 : decode cX10_count 68 = .ok (.iadd, 1) := by decide +kernel
theorem dX10_count_69 : decode cX10_count 69 = .ok (.dup2, 1) := by decide +kernel
theorem dX10_count_70 : decode cX10_count 70 = .ok (.iaload, 1) := by decide +kernel
theorem dX10_count_71 : decode cX10_count 71 = .ok (.iconst 1, 1) := by decide +kernel
theorem dX10_count_72 : decode cX10_count 72 = .ok (.iadd, 1) := by decide +kernel
theorem dX10_count_73 : decode cX10_count 73 = .ok (.iastore, 1) := by decide +kernel
theorem dX10_count_74 : decode cX10_count 74 = .ok (.aload_n 0, 1) := by decide +kernel
theorem dX10_count_75 : decode cX10_count 75 = .ok (.invokevirtual 89, 3) := by decide +kernel
theorem dX10_count_78 : decode cX10_count 78 = .ok (.aload_n 0, 1) := by decide +kernel
theorem dX10_count_79 : decode cX10_count 79 = .ok (.getfield 7, 3) := by decide +kernel
theorem dX10_count_82 : decode cX10_count 82 = .ok (.bipush 12, 2) := by decide +kernel
theorem dX10_count_84 : decode cX10_count 84 = .ok (.iload_n 1, 1) := by decide +kernel
theorem dX10_count_85 : decode cX10_count 85 = .ok (.imul, 1) := by decide +kernel
theorem dX10_count_86 : decode cX10_count 86 = .ok (.iload_n 2, 1) := by decide +kernel
theorem dX10_count_87 : decode cX10_count 87 = .ok (.iadd, 1) := by decide +kernel
theorem dX10_count_88 : decode cX10_count 88 = .ok (.iaload, 1) := by decide +kernel
theorem dX10_count_89 : decode cX10_count 89 = .ok (.ireturn, 1) := by decide +kernel
set_option maxRecDepth 20000 in
theorem ggX10_weigh_X10_outside : GoodIn wsX10_weigh wsX10_outside := goodIn_r _ [7] (by decide +kernel) (by decide +kernel)
set_option maxRecDepth 20000 in
theorem gX10_weigh_X10_outside : GoodIn wsX10_weigh (va_wsS RX10 92 yX10_outside wsX10_outside) := goodIn_app (goodIn_of _ (by decide +kernel)) ggX10_weigh_X10_outside
set_option maxRecDepth 20000 in
theorem ggX10_weigh_X10_isGood : GoodIn wsX10_weigh wsX10_isGood := goodIn_r _ [10, 11, 12] (by decide +kernel) (by decide +kernel)
set_option maxRecDepth 20000 in
theorem gX10_weigh_X10_isGood : GoodIn wsX10_weigh (va_wsS RX10 96 yX10_isGood wsX10_isGood) := goodIn_app (goodIn_of _ (by decide +kernel)) ggX10_weigh_X10_isGood
set_option maxRecDepth 20000 in
theorem ggX10_weigh_X10_loseAll : GoodIn wsX10_weigh wsX10_loseAll := goodIn_r _ [16, 17, 18, 19, 6, 20, 21, 22, 23, 24, 25, 26, 27, 28, 29, 30, 31, 32, 33, 34, 35, 36, 37, 38, 39, 40, 41, 42, 43, 44, 45, 46, 47, 48, 49, 50, 51, 52, 53, 54] (by decide +kernel) (by decide +kernel)
set_option maxRecDepth 20000 in
theorem gX10_weigh_X10_loseAll : GoodIn wsX10_weigh (wsV RX10 89 RX10 yX10_loseAll wsX10_loseAll) := goodIn_app (goodIn_of _ (by decide +kernel)) ggX10_weigh_X10_loseAll
theorem dX10_weigh_0 : decode cX10_weigh 0 = .ok (.aload_n 0, 1) := by decide +kernel
theorem dX10_weigh_1 : decode cX10_weigh 1 = .ok (.iload_n 1, 1) := by decide +kernel
theorem dX10_weigh_2 : decode cX10_weigh 2 = .ok (.aload_n 0, 1) := by decide +kernel
theorem dX10_weigh_3 : decode cX10_weigh 3 = .ok (.getfield 86, 3) := by decide +kernel
theorem dX10_weigh_6 : decode cX10_weigh 6 = .ok (.invokestatic 92, 3) := by decide +kernel
theorem dX10_weigh_9 : decode cX10_weigh 9 = .ok (.ifCond .ne 12, 3) := by decide +kernel
theorem dX10_weigh_12 : decode cX10_weigh 12 = .ok (.iload_n 2, 1) := by decide +kernel
theorem dX10_weigh_13 : decode cX10_weigh 13 = .ok (.bipush 12, 2) := by decide +kernel
theorem dX10_weigh_15 : decode cX10_weigh 15 = .ok (.invokestatic 92, 3) := by decide +kernel
theorem dX10_weigh_18 : decode cX10_weigh 18 = .ok (.ifCond .eq 7, 3) := by decide +kernel
theorem dX10_weigh_21 : decode cX10_weigh 21 = .ok (.iconst 1, 1) := by decide +kernel
theorem dX10_weigh_22 : decode cX10_weigh 22 = .ok (.goto 21, 3) := by decide +kernel
theorem dX10_weigh_25 : decode cX10_weigh 25 = .ok (.fload_n 3, 1) := by decide +kernel
theorem dX10_weigh_26 : decode cX10_weigh 26 = .ok (.invokestatic 96, 3) := by decide +kernel
theorem dX10_weigh_29 : decode cX10_weigh 29 = .ok (.ifCond .eq 13, 3) := by decide +kernel
theorem dX10_weigh_32 : decode cX10_weigh 32 = .ok (.fload_n 3, 1) := by decide +kernel
theorem dX10_weigh_33 : decode cX10_weigh 33 = .ok (.fconst 0, 1) := by decide +kernel
theorem dX10_weigh_34 : decode cX10_weigh 34 = .ok (.fcmp .l, 1) := by decide +kernel
theorem dX10_weigh_35 : decode cX10_weigh 35 = .ok (.ifCond .lt 7, 3) := by decide +kernel
theorem dX10_weigh_38 : decode cX10_weigh 38 = .ok (.iconst 0, 1) := by decide +kernel
theorem dX10_weigh_39 : decode cX10_weigh 39 = .ok (.goto 4, 3) := by decide +kernel
theorem dX10_weigh_42 : decode cX10_weigh 42 = .ok (.iconst 2, 1) := by decide +kernel
theorem dX10_weigh_43 : decode cX10_weigh 43 = .ok (.putfield 73, 3) := by decide +kernel
theorem dX10_weigh_46 : decode cX10_weigh 46 = .ok (.aload_n 0, 1) := by decide +kernel
theorem dX10_weigh_47 : decode cX10_weigh 47 = .ok (.getfield 73, 3) := by decide +kernel
theorem dX10_weigh_50 : decode cX10_weigh 50 = .ok (.ifCond .le 4, 3) := by decide +kernel
theorem dX10_weigh_53 : decode cX10_weigh 53 = .ok (.return_, 1) := by decide +kernel
theorem dX10_weigh_54 : decode cX10_weigh 54 = .ok (.aload_n 0, 1) := by decide +kernel
theorem dX10_weigh_55 : decode cX10_weigh 55 = .ok (.getfield 13, 3) := by decide +kernel
theorem dX10_weigh_58 : decode cX10_weigh 58 = .ok (.bipush 12, 2) := by decide +kernel
theorem dX10_weigh_60 : decode cX10_weigh 60 = .ok (.iload_n 1, 1) := by decide +kernel
theorem dX10_weigh_61 : decode cX10_weigh 61 = .ok (.imul, 1) := by decide +kernel
theorem dX10_weigh_62 : decode cX10_weigh 62 = .ok (.iload_n 2, 1) := by decide +kernel
theorem dX10_weigh_63 : decode cX10_weigh 63 = .ok (.iadd, 1) := by decide +kernel
theorem dX10_weigh_64 : decode cX10_weigh 64 = .ok (.fload_n 3, 1) := by decide +kernel
theorem dX10_weigh_65 : decode cX10_weigh 65 = .ok (.fastore, 1) := by decide +kernel
theorem dX10_weigh_66 : decode cX10_weigh 66 = .ok (.aload_n 0, 1) := by decide +kernel
theorem dX10_weigh_67 : decode cX10_weigh 67 = .ok (.invokevirtual 89, 3) := by decide +kernel
theorem dX10_weigh_70 : decode cX10_weigh 70 = .ok (.return_, 1) := by decide +kernel
set_option maxRecDepth 20000 in
theorem ggX10_token_X10_isGood : GoodIn wsX10_token wsX10_isGood := goodIn_r _ [8, 9, 10] (by decide +kernel) (by decide +kernel)
set_option maxRecDepth 20000 in
theorem gX10_token_X10_isGood : GoodIn wsX10_token (va_wsS RX10 96 yX10_isGood wsX10_isGood) := goodIn_app (goodIn_of _ (by decide +kernel)) ggX10_token_X10_isGood
set_option maxRecDepth 20000 in
theorem ggX10_token_X10_outside : GoodIn wsX10_token wsX10_outside := goodIn_r _ [13] (by decide +kernel) (by decide +kernel)
set_option maxRecDepth 20000 in
theorem gX10_token_X10_outside : GoodIn wsX10_token (va_wsS RX10 92 yX10_outside wsX10_outside) := goodIn_app (goodIn_of _ (by decide +kernel)) ggX10_token_X10_outside
set_option maxRecDepth 20000 in
theorem ggX10_token_X10_put : GoodIn wsX10_token wsX10_put := goodIn_r _ [16] (by decide +kernel) (by decide +kernel)
set_option maxRecDepth 20000 in
theorem gX10_token_X10_put : GoodIn wsX10_token (va_wsS RX10 100 yX10_put wsX10_put) := goodIn_app (goodIn_of _ (by decide +kernel)) ggX10_token_X10_put
set_option maxRecDepth 20000 in
theorem ggX10_token_X10_loseAll : GoodIn wsX10_token wsX10_loseAll := goodIn_r _ [20, 21, 22, 23, 7, 24, 25, 26, 27, 28, 29, 30, 31, 32, 33, 34, 35, 36, 37, 38, 39, 40, 41, 42, 43, 44, 45, 46, 47, 48, 49, 50, 51, 52, 53, 54, 55, 56, 57, 58] (by decide +kernel) (by decide +kernel)
set_option maxRecDepth 20000 in
theorem gX10_token_X10_loseAll : GoodIn wsX10_token (wsV RX10 89 RX10 yX10_loseAll wsX10_loseAll) := goodIn_app (goodIn_of _ (by decide +kernel)) ggX10_token_X10_loseAll
theorem dX10_token_0 : decode cX10_token 0 = .ok (.fload_n 2, 1) := by decide +kernel
theorem dX10_token_1 : decode cX10_token 1 = .ok (.invokestatic 96, 3) := by decide +kernel
theorem dX10_token_4 : decode cX10_token 4 = .ok (.ifCond .eq 30, 3) := by decide +kernel
theorem dX10_token_7 : decode cX10_token 7 = .ok (.fload_n 3, 1) := by decide +kernel
theorem dX10_token_8 : decode cX10_token 8 = .ok (.invokestatic 96, 3) := by decide +kernel
theorem dX10_token_11 : decode cX10_token 11 = .ok (.ifCond .eq 23, 3) := by decide +kernel
theorem dX10_token_14 : decode cX10_token 14 = .ok (.fload 4, 2) := by decide +kernel
theorem dX10_token_16 : decode cX10_token 16 = .ok (.invokestatic 96, 3) := by decide +kernel
theorem dX10_token_19 : decode cX10_token 19 = .ok (.ifCond .eq 15, 3) := by decide +kernel
theorem dX10_token_22 : decode cX10_token 22 = .ok (.fload 5, 2) := by decide +kernel
theorem dX10_token_24 : decode cX10_token 24 = .ok (.invokestatic 96, 3) := by decide +kernel
theorem dX10_token_27 : decode cX10_token 27 = .ok (.ifCond .eq 7, 3) := by decide +kernel
theorem dX10_token_30 : decode cX10_token 30 = .ok (.iconst 1, 1) := by decide +kernel
theorem dX10_token_31 : decode cX10_token 31 = .ok (.goto 4, 3) := by decide +kernel
theorem dX10_token_34 : decode cX10_token 34 = .ok (.iconst 0, 1) := by decide +kernel
theorem dX10_token_35 : decode cX10_token 35 = .ok (.istore 6, 2) := by decide +kernel
theorem dX10_token_37 : decode cX10_token 37 = .ok (.aload_n 0, 1) := by decide +kernel
theorem dX10_token_38 : decode cX10_token 38 = .ok (.iload_n 1, 1) := by decide +kernel
theorem dX10_token_39 : decode cX10_token 39 = .ok (.aload_n 0, 1) := by decide +kernel
theorem dX10_token_40 : decode cX10_token 40 = .ok (.getfield 86, 3) := by decide +kernel
theorem dX10_token_43 : decode cX10_token 43 = .ok (.invokestatic 92, 3) := by decide +kernel
theorem dX10_token_46 : decode cX10_token 46 = .ok (.ifCond .eq 7, 3) := by decide +kernel
theorem dX10_token_49 : decode cX10_token 49 = .ok (.iconst 1, 1) := by decide +kernel
theorem dX10_token_50 : decode cX10_token 50 = .ok (.goto 27, 3) := by decide +kernel
theorem dX10_token_53 : decode cX10_token 53 = .ok (.iload 6, 2) := by decide +kernel
theorem dX10_token_55 : decode cX10_token 55 = .ok (.ifCond .ne 7, 3) := by decide +kernel
theorem dX10_token_58 : decode cX10_token 58 = .ok (.iconst 2, 1) := by decide +kernel
theorem dX10_token_59 : decode cX10_token 59 = .ok (.goto 18, 3) := by decide +kernel
theorem dX10_token_62 : decode cX10_token 62 = .ok (.aload_n 0, 1) := by decide +kernel
theorem dX10_token_63 : decode cX10_token 63 = .ok (.getfield 17, 3) := by decide +kernel
theorem dX10_token_66 : decode cX10_token 66 = .ok (.iload_n 1, 1) := by decide +kernel
theorem dX10_token_67 : decode cX10_token 67 = .ok (.iaload, 1) := by decide +kernel
theorem dX10_token_68 : decode cX10_token 68 = .ok (.iconst 4, 1) := by decide +kernel
theorem dX10_token_69 : decode cX10_token 69 = .ok (.if_icmp .ne 7, 3) := by decide +kernel
theorem dX10_token_72 : decode cX10_token 72 = .ok (.iconst 3, 1) := by decide +kernel
theorem dX10_token_73 : decode cX10_token 73 = .ok (.goto 4, 3) := by decide +kernel
theorem dX10_token_76 : decode cX10_token 76 = .ok (.iconst 0, 1) := by decide +kernel
theorem dX10_token_77 : decode cX10_token 77 = .ok (.putfield 73, 3) := by decide +kernel
theorem dX10_token_80 : decode cX10_token 80 = .ok (.aload_n 0, 1) := by decide +kernel
theorem dX10_token_81 : decode cX10_token 81 = .ok (.getfield 73, 3) := by decide +kernel
theorem dX10_token_84 : decode cX10_token 84 = .ok (.ifCond .le 5, 3) := by decide +kernel
theorem dX10_token_87 : decode cX10_token 87 = .ok (.iconst 0, 1) := by decide +kernel
theorem dX10_token_88 : decode cX10_token 88 = .ok (.ireturn, 1) := by decide +kernel
theorem dX10_token_89 : decode cX10_token 89 = .ok (.aload_n 0, 1) := by decide +kernel
theorem dX10_token_90 : decode cX10_token 90 = .ok (.getfield 20, 3) := by decide +kernel
theorem dX10_token_93 : decode cX10_token 93 = .ok (.bipush 16, 2) := by decide +kernel
theorem dX10_token_95 : decode cX10_token 95 = .ok (.iload_n 1, 1) := by decide +kernel
theorem dX10_token_96 : decode cX10_token 96 = .ok (.imul, 1) := by decide +kernel
theorem dX10_token_97 : decode cX10_token 97 = .ok (.iconst 4, 1) := by decide +kernel
theorem dX10_token_98 : decode cX10_token 98 = .ok (.aload_n 0, 1) := by decide +kernel
theorem dX10_token_99 : decode cX10_token 99 = .ok (.getfield 17, 3) := by decide +kernel
theorem dX10_token_102 : decode cX10_token 102 = .ok (.iload_n 1, 1) := by decide +kernel
theorem dX10_token_103 : decode cX10_token 103 = .ok (.iaload, 1) := by decide +kernel
theorem dX10_token_104 : decode cX10_token 104 = .ok (.imul, 1) := by decide +kernel
theorem dX10_token_105 : decode cX10_token 105 = .ok (.iadd, 1) := by decide +kernel
theorem dX10_token_106 : decode cX10_token 106 = .ok (.fload_n 2, 1) := by decide +kernel
theorem dX10_token_107 : decode cX10_token 107 = .ok (.fload_n 3, 1) := by decide +kernel
theorem dX10_token_108 : decode cX10_token 108 = .ok (.fload 4, 2) := by decide +kernel
theorem dX10_token_110 : decode cX10_token 110 = .ok (.fload 5, 2) := by decide +kernel
theorem dX10_token_112 : decode cX10_token 112 = .ok (.invokestatic 100, 3) := by decide +kernel
theorem dX10_token_115 : decode cX10_token 115 = .ok (.aload_n 0, 1) := by decide +kernel
theorem dX10_token_116 : decode cX10_token 116 = .ok (.getfield 17, 3) := by decide +kernel
theorem dX10_token_119 : decode cX10_token 119 = .ok (.iload_n 1, 1) := by decide +kernel
theorem dX10_token_120 : decode cX10_token 120 = .ok (.dup2, 1) := by decide +kernel
theorem dX10_token_121 : decode cX10_token 121 = .ok (.iaload, 1) := by decide +kernel
theorem dX10_token_122 : decode cX10_token 122 = .ok (.iconst 1, 1) := by decide +kernel
theorem dX10_token_123 : decode cX10_token 123 = .ok (.iadd, 1) := by decide +kernel
theorem dX10_token_124 : decode cX10_token 124 = .ok (.iastore, 1) := by decide +kernel
theorem dX10_token_125 : decode cX10_token 125 = .ok (.aload_n 0, 1) := by decide +kernel
theorem dX10_token_126 : decode cX10_token 126 = .ok (.invokevirtual 89, 3) := by decide +kernel
theorem dX10_token_129 : decode cX10_token 129 = .ok (.aload_n 0, 1) := by decide +kernel
theorem dX10_token_130 : decode cX10_token 130 = .ok (.getfield 17, 3) := by decide +kernel
theorem dX10_token_133 : decode cX10_token 133 = .ok (.iload_n 1, 1) := by decide +kernel
theorem dX10_token_134 : decode cX10_token 134 = .ok (.iaload, 1) := by decide +kernel
theorem dX10_token_135 : decode cX10_token 135 = .ok (.iconst 1, 1) := by decide +kernel
theorem dX10_token_136 : decode cX10_token 136 = .ok (.isub, 1) := by decide +kernel
theorem dX10_token_137 : decode cX10_token 137 = .ok (.ireturn, 1) := by decide +kernel
theorem dX10_put_0 : decode cX10_put 0 = .ok (.aload_n 0, 1) := by decide +kernel
theorem dX10_put_1 : decode cX10_put 1 = .ok (.iload_n 1, 1) := by decide +kernel
theorem dX10_put_2 : decode cX10_put 2 = .ok (.fload_n 2, 1) := by decide +kernel
theorem dX10_put_3 : decode cX10_put 3 = .ok (.fastore, 1) := by decide +kernel
theorem dX10_put_4 : decode cX10_put 4 = .ok (.aload_n 0, 1) := by decide +kernel
theorem dX10_put_5 : decode cX10_put 5 = .ok (.iload_n 1, 1) := by decide +kernel
theorem dX10_put_6 : decode cX10_put 6 = .ok (.iconst 1, 1) := by decide +kernel
theorem dX10_put_7 : decode cX10_put 7 = .ok (.iadd, 1) := by decide +kernel
theorem dX10_put_8 : decode cX10_put 8 = .ok (.fload_n 3, 1) := by decide +kernel
theorem dX10_put_9 : decode cX10_put 9 = .ok (.fastore, 1) := by decide +kernel
theorem dX10_put_10 : decode cX10_put 10 = .ok (.aload_n 0, 1) := by decide +kernel
theorem dX10_put_11 : decode cX10_put 11 = .ok (.iload_n 1, 1) := by decide +kernel
theorem dX10_put_12 : decode cX10_put 12 = .ok (.iconst 2, 1) := by decide +kernel
theorem dX10_put_13 : decode cX10_put 13 = .ok (.iadd, 1) := by decide +kernel
theorem dX10_put_14 : decode cX10_put 14 = .ok (.fload 4, 2) := by decide +kernel
theorem dX10_put_16 : decode cX10_put 16 = .ok (.fastore, 1) := by decide +kernel
theorem dX10_put_17 : decode cX10_put 17 = .ok (.aload_n 0, 1) := by decide +kernel
theorem dX10_put_18 : decode cX10_put 18 = .ok (.iload_n 1, 1) := by decide +kernel
theorem dX10_put_19 : decode cX10_put 19 = .ok (.iconst 3, 1) := by decide +kernel
theorem dX10_put_20 : decode cX10_put 20 = .ok (.iadd, 1) := by decide +kernel
theorem dX10_put_21 : decode cX10_put 21 = .ok (.fload 5, 2) := by decide +kernel
theorem dX10_put_23 : decode cX10_put 23 = .ok (.fastore, 1) := by decide +kernel
theorem dX10_put_24 : decode cX10_put 24 = .ok (.return_, 1) := by decide +kernel
set_option maxRecDepth 20000 in
theorem ggX10_centroid_X10_isGood : GoodIn wsX10_centroid wsX10_isGood := goodIn_r _ [7, 8, 9] (by decide +kernel) (by decide +kernel)
set_option maxRecDepth 20000 in
theorem gX10_centroid_X10_isGood : GoodIn wsX10_centroid (va_wsS RX10 96 yX10_isGood wsX10_isGood) := goodIn_app (goodIn_of _ (by decide +kernel)) ggX10_centroid_X10_isGood
set_option maxRecDepth 20000 in
theorem ggX10_centroid_X10_put : GoodIn wsX10_centroid wsX10_put := goodIn_r _ [12] (by decide +kernel) (by decide +kernel)
set_option maxRecDepth 20000 in
theorem gX10_centroid_X10_put : GoodIn wsX10_centroid (va_wsS RX10 100 yX10_put wsX10_put) := goodIn_app (goodIn_of _ (by decide +kernel)) ggX10_centroid_X10_put
set_option maxRecDepth 20000 in
theorem ggX10_centroid_X10_loseAll : GoodIn wsX10_centroid wsX10_loseAll := goodIn_r _ [16, 17, 18, 19, 6, 20, 21, 22, 23, 24, 25, 26, 27, 28, 29, 30, 31, 32, 33, 34, 35, 36, 37, 38, 39, 40, 41, 42, 43, 44, 45, 46, 47, 48, 49, 50, 51, 52, 53, 54] (by decide +kernel) (by decide +kernel)
set_option maxRecDepth 20000 in
theorem gX10_centroid_X10_loseAll : GoodIn wsX10_centroid (wsV RX10 89 RX10 yX10_loseAll wsX10_loseAll) := goodIn_app (goodIn_of _ (by decide +kernel)) ggX10_centroid_X10_loseAll
theorem dX10_centroid_0 : decode cX10_centroid 0 = .ok (.aload_n 0, 1) := by decide +kernel
theorem dX10_centroid_1 : decode cX10_centroid 1 = .ok (.fload_n 1, 1) := by decide +kernel
theorem dX10_centroid_2 : decode cX10_centroid 2 = .ok (.invokestatic 96, 3) := by decide +kernel
theorem dX10_centroid_5 : decode cX10_centroid 5 = .ok (.ifCond .eq 25, 3) := by decide +kernel
theorem dX10_centroid_8 : decode cX10_centroid 8 = .ok (.fload_n 2, 1) := by decide +kernel
theorem dX10_centroid_9 : decode cX10_centroid 9 = .ok (.invokestatic 96, 3) := by decide +kernel
theorem dX10_centroid_12 : decode cX10_centroid 12 = .ok (.ifCond .eq 18, 3) := by decide +kernel
theorem dX10_centroid_15 : decode cX10_centroid 15 = .ok (.fload_n 3, 1) := by decide +kernel
theorem dX10_centroid_16 : decode cX10_centroid 16 = .ok (.invokestatic 96, 3) := by decide +kernel
theorem dX10_centroid_19 : decode cX10_centroid 19 = .ok (.ifCond .eq 11, 3) := by decide +kernel
theorem dX10_centroid_22 : decode cX10_centroid 22 = .ok (.fload 4, 2) := by decide +kernel
theorem dX10_centroid_24 : decode cX10_centroid 24 = .ok (.invokestatic 96, 3) := by decide +kernel
theorem dX10_centroid_27 : decode cX10_centroid 27 = .ok (.ifCond .ne 7, 3) := by decide +kernel
theorem dX10_centroid_30 : decode cX10_centroid 30 = .ok (.iconst 1, 1) := by decide +kernel
