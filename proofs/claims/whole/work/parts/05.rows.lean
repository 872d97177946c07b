theorem dX10_centroid_31 : decode cX10_centroid 31 = .ok (.goto 16, 3) := by decide +kernel
theorem dX10_centroid_34 : decode cX10_centroid 34 = .ok (.aload_n 0, 1) := by decide +kernel
theorem dX10_centroid_35 : decode cX10_centroid 35 = .ok (.getfield 104, 3) := by decide +kernel
theorem dX10_centroid_38 : decode cX10_centroid 38 = .ok (.iconst 4, 1) := by decide +kernel
theorem dX10_centroid_39 : decode cX10_centroid 39 = .ok (.if_icmp .ne 7, 3) := by decide +kernel
theorem dX10_centroid_42 : decode cX10_centroid 42 = .ok (.iconst 2, 1) := by decide +kernel
theorem dX10_centroid_43 : decode cX10_centroid 43 = .ok (.goto 4, 3) := by decide +kernel
theorem dX10_centroid_46 : decode cX10_centroid 46 = .ok (.iconst 0, 1) := by decide +kernel
theorem dX10_centroid_47 : decode cX10_centroid 47 = .ok (.putfield 73, 3) := by decide +kernel
theorem dX10_centroid_50 : decode cX10_centroid 50 = .ok (.aload_n 0, 1) := by decide +kernel
theorem dX10_centroid_51 : decode cX10_centroid 51 = .ok (.getfield 73, 3) := by decide +kernel
theorem dX10_centroid_54 : decode cX10_centroid 54 = .ok (.ifCond .le 5, 3) := by decide +kernel
theorem dX10_centroid_57 : decode cX10_centroid 57 = .ok (.iconst 0, 1) := by decide +kernel
theorem dX10_centroid_58 : decode cX10_centroid 58 = .ok (.ireturn, 1) := by decide +kernel
theorem dX10_centroid_59 : decode cX10_centroid 59 = .ok (.aload_n 0, 1) := by decide +kernel
theorem dX10_centroid_60 : decode cX10_centroid 60 = .ok (.getfield 23, 3) := by decide +kernel
theorem dX10_centroid_63 : decode cX10_centroid 63 = .ok (.iconst 4, 1) := by decide +kernel
theorem dX10_centroid_64 : decode cX10_centroid 64 = .ok (.aload_n 0, 1) := by decide +kernel
theorem dX10_centroid_65 : decode cX10_centroid 65 = .ok (.getfield 104, 3) := by decide +kernel
theorem dX10_centroid_68 : decode cX10_centroid 68 = .ok (.imul, 1) := by decide +kernel
theorem dX10_centroid_69 : decode cX10_centroid 69 = .ok (.fload_n 1, 1) := by decide +kernel
theorem dX10_centroid_70 : decode cX10_centroid 70 = .ok (.fload_n 2, 1) := by decide +kernel
theorem dX10_centroid_71 : decode cX10_centroid 71 = .ok (.fload_n 3, 1) := by decide +kernel
theorem dX10_centroid_72 : decode cX10_centroid 72 = .ok (.fload 4, 2) := by decide +kernel
theorem dX10_centroid_74 : decode cX10_centroid 74 = .ok (.invokestatic 100, 3) := by decide +kernel
theorem dX10_centroid_77 : decode cX10_centroid 77 = .ok (.aload_n 0, 1) := by decide +kernel
theorem dX10_centroid_78 : decode cX10_centroid 78 = .ok (.dup, 1) := by decide +kernel
theorem dX10_centroid_79 : decode cX10_centroid 79 = .ok (.getfield 104, 3) := by decide +kernel
theorem dX10_centroid_82 : decode cX10_centroid 82 = .ok (.iconst 1, 1) := by decide +kernel
theorem dX10_centroid_83 : decode cX10_centroid 83 = .ok (.iadd, 1) := by decide +kernel
theorem dX10_centroid_84 : decode cX10_centroid 84 = .ok (.putfield 104, 3) := by decide +kernel
theorem dX10_centroid_87 : decode cX10_centroid 87 = .ok (.aload_n 0, 1) := by decide +kernel
theorem dX10_centroid_88 : decode cX10_centroid 88 = .ok (.invokevirtual 89, 3) := by decide +kernel
theorem dX10_centroid_91 : decode cX10_centroid 91 = .ok (.aload_n 0, 1) := by decide +kernel
theorem dX10_centroid_92 : decode cX10_centroid 92 = .ok (.getfield 104, 3) := by decide +kernel
theorem dX10_centroid_95 : decode cX10_centroid 95 = .ok (.iconst 1, 1) := by decide +kernel
theorem dX10_centroid_96 : decode cX10_centroid 96 = .ok (.isub, 1) := by decide +kernel
theorem dX10_centroid_97 : decode cX10_centroid 97 = .ok (.ireturn, 1) := by decide +kernel
set_option maxRecDepth 20000 in
theorem ggX10_clear_X10_loseAll : GoodIn wsX10_clear wsX10_loseAll := goodIn_r _ [9, 10, 11, 12, 8, 13, 14, 15, 16, 17, 18, 19, 20, 21, 22, 23, 24, 25, 26, 27, 28, 29, 30, 31, 32, 33, 34, 35, 36, 37, 38, 39, 40, 41, 42, 43, 44, 45, 46, 47] (by decide +kernel) (by decide +kernel)
set_option maxRecDepth 20000 in
theorem gX10_clear_X10_loseAll : GoodIn wsX10_clear (wsV RX10 89 RX10 yX10_loseAll wsX10_loseAll) := goodIn_app (goodIn_of _ (by decide +kernel)) ggX10_clear_X10_loseAll
theorem dX10_clear_0 : decode cX10_clear 0 = .ok (.aload_n 0, 1) := by decide +kernel
theorem dX10_clear_1 : decode cX10_clear 1 = .ok (.iconst 0, 1) := by decide +kernel
theorem dX10_clear_2 : decode cX10_clear 2 = .ok (.putfield 73, 3) := by decide +kernel
theorem dX10_clear_5 : decode cX10_clear 5 = .ok (.aload_n 0, 1) := by decide +kernel
theorem dX10_clear_6 : decode cX10_clear 6 = .ok (.iconst 0, 1) := by decide +kernel
theorem dX10_clear_7 : decode cX10_clear 7 = .ok (.putfield 107, 3) := by decide +kernel
theorem dX10_clear_10 : decode cX10_clear 10 = .ok (.aload_n 0, 1) := by decide +kernel
theorem dX10_clear_11 : decode cX10_clear 11 = .ok (.iconst 0, 1) := by decide +kernel
theorem dX10_clear_12 : decode cX10_clear 12 = .ok (.putfield 110, 3) := by decide +kernel
theorem dX10_clear_15 : decode cX10_clear 15 = .ok (.aload_n 0, 1) := by decide +kernel
theorem dX10_clear_16 : decode cX10_clear 16 = .ok (.iconst 0, 1) := by decide +kernel
theorem dX10_clear_17 : decode cX10_clear 17 = .ok (.putfield 113, 3) := by decide +kernel
theorem dX10_clear_20 : decode cX10_clear 20 = .ok (.aload_n 0, 1) := by decide +kernel
theorem dX10_clear_21 : decode cX10_clear 21 = .ok (.invokevirtual 89, 3) := by decide +kernel
theorem dX10_clear_24 : decode cX10_clear 24 = .ok (.return_, 1) := by decide +kernel
theorem dX10_isThere_0 : decode cX10_isThere 0 = .ok (.iconst 0, 1) := by decide +kernel
theorem dX10_isThere_1 : decode cX10_isThere 1 = .ok (.istore_n 3, 1) := by decide +kernel
theorem dX10_isThere_2 : decode cX10_isThere 2 = .ok (.iconst 0, 1) := by decide +kernel
theorem dX10_isThere_3 : decode cX10_isThere 3 = .ok (.istore 4, 2) := by decide +kernel
theorem dX10_isThere_5 : decode cX10_isThere 5 = .ok (.iload 4, 2) := by decide +kernel
theorem dX10_isThere_7 : decode cX10_isThere 7 = .ok (.iload_n 1, 1) := by decide +kernel
theorem dX10_isThere_8 : decode cX10_isThere 8 = .ok (.if_icmp .ge 27, 3) := by decide +kernel
theorem dX10_isThere_11 : decode cX10_isThere 11 = .ok (.iload_n 3, 1) := by decide +kernel
theorem dX10_isThere_12 : decode cX10_isThere 12 = .ok (.ifCond .ne 11, 3) := by decide +kernel
theorem dX10_isThere_15 : decode cX10_isThere 15 = .ok (.aload_n 0, 1) := by decide +kernel
theorem dX10_isThere_16 : decode cX10_isThere 16 = .ok (.iload 4, 2) := by decide +kernel
theorem dX10_isThere_18 : decode cX10_isThere 18 = .ok (.iaload, 1) := by decide +kernel
theorem dX10_isThere_19 : decode cX10_isThere 19 = .ok (.iload_n 2, 1) := by decide +kernel
theorem dX10_isThere_20 : decode cX10_isThere 20 = .ok (.if_icmp .ne 7, 3) := by decide +kernel
theorem dX10_isThere_23 : decode cX10_isThere 23 = .ok (.iconst 1, 1) := by decide +kernel
theorem dX10_isThere_24 : decode cX10_isThere 24 = .ok (.goto 4, 3) := by decide +kernel
theorem dX10_isThere_27 : decode cX10_isThere 27 = .ok (.iconst 0, 1) := by decide +kernel
theorem dX10_isThere_28 : decode cX10_isThere 28 = .ok (.istore_n 3, 1) := by decide +kernel
theorem dX10_isThere_29 : decode cX10_isThere 29 = .ok (.iinc 4 1, 3) := by decide +kernel
theorem dX10_isThere_32 : decode cX10_isThere 32 = .ok (.goto (-27), 3) := by decide +kernel
theorem dX10_isThere_35 : decode cX10_isThere 35 = .ok (.iload_n 3, 1) := by decide +kernel
theorem dX10_isThere_36 : decode cX10_isThere 36 = .ok (.ireturn, 1) := by decide +kernel
set_option maxRecDepth 20000 in
theorem ggX10_word_X10_outside : GoodIn wsX10_word wsX10_outside := goodIn_r _ [7] (by decide +kernel) (by decide +kernel)
set_option maxRecDepth 20000 in
theorem gX10_word_X10_outside : GoodIn wsX10_word (va_wsS RX10 92 yX10_outside wsX10_outside) := goodIn_app (goodIn_of _ (by decide +kernel)) ggX10_word_X10_outside
set_option maxRecDepth 20000 in
theorem ggX10_word_X10_isThere : GoodIn wsX10_word wsX10_isThere := goodIn_r _ [10] (by decide +kernel) (by decide +kernel)
set_option maxRecDepth 20000 in
theorem gX10_word_X10_isThere : GoodIn wsX10_word (va_wsS RX10 116 yX10_isThere wsX10_isThere) := goodIn_app (goodIn_of _ (by decide +kernel)) ggX10_word_X10_isThere
set_option maxRecDepth 20000 in
theorem ggX10_word_X10_lose : GoodIn wsX10_word wsX10_lose := goodIn_r _ [14, 15, 16, 17, 18, 19, 20, 21, 22, 23, 24, 25, 26, 27, 28, 29, 30, 31, 32, 33, 34, 35, 36, 37, 38, 39, 40, 41, 42, 43, 44, 45, 46, 47, 48] (by decide +kernel) (by decide +kernel)
set_option maxRecDepth 20000 in
theorem gX10_word_X10_lose : GoodIn wsX10_word (wsV RX10 82 RX10 yX10_lose wsX10_lose) := goodIn_app (goodIn_of _ (by decide +kernel)) ggX10_word_X10_lose
theorem dX10_word_0 : decode cX10_word 0 = .ok (.aload_n 0, 1) := by decide +kernel
theorem dX10_word_1 : decode cX10_word 1 = .ok (.iload_n 1, 1) := by decide +kernel
theorem dX10_word_2 : decode cX10_word 2 = .ok (.bipush 12, 2) := by decide +kernel
theorem dX10_word_4 : decode cX10_word 4 = .ok (.invokestatic 92, 3) := by decide +kernel
theorem dX10_word_7 : decode cX10_word 7 = .ok (.ifCond .eq 7, 3) := by decide +kernel
theorem dX10_word_10 : decode cX10_word 10 = .ok (.iconst 1, 1) := by decide +kernel
theorem dX10_word_11 : decode cX10_word 11 = .ok (.goto 35, 3) := by decide +kernel
theorem dX10_word_14 : decode cX10_word 14 = .ok (.aload_n 0, 1) := by decide +kernel
theorem dX10_word_15 : decode cX10_word 15 = .ok (.getfield 26, 3) := by decide +kernel
theorem dX10_word_18 : decode cX10_word 18 = .ok (.aload_n 0, 1) := by decide +kernel
theorem dX10_word_19 : decode cX10_word 19 = .ok (.getfield 107, 3) := by decide +kernel
theorem dX10_word_22 : decode cX10_word 22 = .ok (.iload_n 1, 1) := by decide +kernel
theorem dX10_word_23 : decode cX10_word 23 = .ok (.invokestatic 116, 3) := by decide +kernel
theorem dX10_word_26 : decode cX10_word 26 = .ok (.ifCond .eq 7, 3) := by decide +kernel
theorem dX10_word_29 : decode cX10_word 29 = .ok (.iconst 2, 1) := by decide +kernel
theorem dX10_word_30 : decode cX10_word 30 = .ok (.goto 16, 3) := by decide +kernel
theorem dX10_word_33 : decode cX10_word 33 = .ok (.aload_n 0, 1) := by decide +kernel
theorem dX10_word_34 : decode cX10_word 34 = .ok (.getfield 107, 3) := by decide +kernel
theorem dX10_word_37 : decode cX10_word 37 = .ok (.iconst 4, 1) := by decide +kernel
theorem dX10_word_38 : decode cX10_word 38 = .ok (.if_icmp .ne 7, 3) := by decide +kernel
theorem dX10_word_41 : decode cX10_word 41 = .ok (.iconst 3, 1) := by decide +kernel
theorem dX10_word_42 : decode cX10_word 42 = .ok (.goto 4, 3) := by decide +kernel
theorem dX10_word_45 : decode cX10_word 45 = .ok (.iconst 0, 1) := by decide +kernel
theorem dX10_word_46 : decode cX10_word 46 = .ok (.putfield 73, 3) := by decide +kernel
theorem dX10_word_49 : decode cX10_word 49 = .ok (.aload_n 0, 1) := by decide +kernel
theorem dX10_word_50 : decode cX10_word 50 = .ok (.getfield 73, 3) := by decide +kernel
theorem dX10_word_53 : decode cX10_word 53 = .ok (.ifCond .le 5, 3) := by decide +kernel
theorem dX10_word_56 : decode cX10_word 56 = .ok (.iconst 0, 1) := by decide +kernel
theorem dX10_word_57 : decode cX10_word 57 = .ok (.ireturn, 1) := by decide +kernel
theorem dX10_word_58 : decode cX10_word 58 = .ok (.aload_n 0, 1) := by decide +kernel
theorem dX10_word_59 : decode cX10_word 59 = .ok (.getfield 26, 3) := by decide +kernel
theorem dX10_word_62 : decode cX10_word 62 = .ok (.aload_n 0, 1) := by decide +kernel
theorem dX10_word_63 : decode cX10_word 63 = .ok (.getfield 107, 3) := by decide +kernel
theorem dX10_word_66 : decode cX10_word 66 = .ok (.iload_n 1, 1) := by decide +kernel
theorem dX10_word_67 : decode cX10_word 67 = .ok (.iastore, 1) := by decide +kernel
theorem dX10_word_68 : decode cX10_word 68 = .ok (.aload_n 0, 1) := by decide +kernel
theorem dX10_word_69 : decode cX10_word 69 = .ok (.dup, 1) := by decide +kernel
theorem dX10_word_70 : decode cX10_word 70 = .ok (.getfield 107, 3) := by decide +kernel
theorem dX10_word_73 : decode cX10_word 73 = .ok (.iconst 1, 1) := by decide +kernel
theorem dX10_word_74 : decode cX10_word 74 = .ok (.iadd, 1) := by decide +kernel
theorem dX10_word_75 : decode cX10_word 75 = .ok (.putfield 107, 3) := by decide +kernel
theorem dX10_word_78 : decode cX10_word 78 = .ok (.aload_n 0, 1) := by decide +kernel
theorem dX10_word_79 : decode cX10_word 79 = .ok (.iconst 0, 1) := by decide +kernel
theorem dX10_word_80 : decode cX10_word 80 = .ok (.invokevirtual 82, 3) := by decide +kernel
theorem dX10_word_83 : decode cX10_word 83 = .ok (.aload_n 0, 1) := by decide +kernel
theorem dX10_word_84 : decode cX10_word 84 = .ok (.getfield 107, 3) := by decide +kernel
theorem dX10_word_87 : decode cX10_word 87 = .ok (.ireturn, 1) := by decide +kernel
set_option maxRecDepth 20000 in
theorem ggX10_impact_X10_outside : GoodIn wsX10_impact wsX10_outside := goodIn_r _ [8] (by decide +kernel) (by decide +kernel)
set_option maxRecDepth 20000 in
theorem gX10_impact_X10_outside : GoodIn wsX10_impact (va_wsS RX10 92 yX10_outside wsX10_outside) := goodIn_app (goodIn_of _ (by decide +kernel)) ggX10_impact_X10_outside
set_option maxRecDepth 20000 in
theorem ggX10_impact_X10_isThere : GoodIn wsX10_impact wsX10_isThere := goodIn_r _ [11] (by decide +kernel) (by decide +kernel)
set_option maxRecDepth 20000 in
theorem gX10_impact_X10_isThere : GoodIn wsX10_impact (va_wsS RX10 116 yX10_isThere wsX10_isThere) := goodIn_app (goodIn_of _ (by decide +kernel)) ggX10_impact_X10_isThere
set_option maxRecDepth 20000 in
theorem ggX10_impact_X10_lose : GoodIn wsX10_impact wsX10_lose := goodIn_r _ [15, 16, 17, 18, 19, 20, 21, 22, 23, 24, 25, 26, 27, 28, 29, 30, 31, 32, 33, 34, 35, 36, 37, 38, 39, 40, 41, 42, 43, 44, 45, 46, 47, 48, 49] (by decide +kernel) (by decide +kernel)
set_option maxRecDepth 20000 in
theorem gX10_impact_X10_lose : GoodIn wsX10_impact (wsV RX10 82 RX10 yX10_lose wsX10_lose) := goodIn_app (goodIn_of _ (by decide +kernel)) ggX10_impact_X10_lose
theorem dX10_impact_0 : decode cX10_impact 0 = .ok (.aload_n 0, 1) := by decide +kernel
theorem dX10_impact_1 : decode cX10_impact 1 = .ok (.iload_n 1, 1) := by decide +kernel
theorem dX10_impact_2 : decode cX10_impact 2 = .ok (.bipush 12, 2) := by decide +kernel
theorem dX10_impact_4 : decode cX10_impact 4 = .ok (.invokestatic 92, 3) := by decide +kernel
theorem dX10_impact_7 : decode cX10_impact 7 = .ok (.ifCond .eq 7, 3) := by decide +kernel
theorem dX10_impact_10 : decode cX10_impact 10 = .ok (.iconst 1, 1) := by decide +kernel
theorem dX10_impact_11 : decode cX10_impact 11 = .ok (.goto 46, 3) := by decide +kernel
theorem dX10_impact_14 : decode cX10_impact 14 = .ok (.aload_n 0, 1) := by decide +kernel
theorem dX10_impact_15 : decode cX10_impact 15 = .ok (.getfield 29, 3) := by decide +kernel
theorem dX10_impact_18 : decode cX10_impact 18 = .ok (.aload_n 0, 1) := by decide +kernel
theorem dX10_impact_19 : decode cX10_impact 19 = .ok (.getfield 110, 3) := by decide +kernel
theorem dX10_impact_22 : decode cX10_impact 22 = .ok (.iload_n 1, 1) := by decide +kernel
theorem dX10_impact_23 : decode cX10_impact 23 = .ok (.invokestatic 116, 3) := by decide +kernel
theorem dX10_impact_26 : decode cX10_impact 26 = .ok (.ifCond .ne 14, 3) := by decide +kernel
theorem dX10_impact_29 : decode cX10_impact 29 = .ok (.iload_n 2, 1) := by decide +kernel
theorem dX10_impact_30 : decode cX10_impact 30 = .ok (.iconst 1, 1) := by decide +kernel
theorem dX10_impact_31 : decode cX10_impact 31 = .ok (.if_icmp .lt 9, 3) := by decide +kernel
theorem dX10_impact_34 : decode cX10_impact 34 = .ok (.iload_n 2, 1) := by decide +kernel
theorem dX10_impact_35 : decode cX10_impact 35 = .ok (.bipush 100, 2) := by decide +kernel
theorem dX10_impact_37 : decode cX10_impact 37 = .ok (.if_icmp .le 7, 3) := by decide +kernel
theorem dX10_impact_40 : decode cX10_impact 40 = .ok (.iconst 2, 1) := by decide +kernel
theorem dX10_impact_41 : decode cX10_impact 41 = .ok (.goto 16, 3) := by decide +kernel
theorem dX10_impact_44 : decode cX10_impact 44 = .ok (.aload_n 0, 1) := by decide +kernel
theorem dX10_impact_45 : decode cX10_impact 45 = .ok (.getfield 110, 3) := by decide +kernel
theorem dX10_impact_48 : decode cX10_impact 48 = .ok (.iconst 4, 1) := by decide +kernel
theorem dX10_impact_49 : decode cX10_impact 49 = .ok (.if_icmp .ne 7, 3) := by decide +kernel
theorem dX10_impact_52 : decode cX10_impact 52 = .ok (.iconst 3, 1) := by decide +kernel
theorem dX10_impact_53 : decode cX10_impact 53 = .ok (.goto 4, 3) := by decide +kernel
theorem dX10_impact_56 : decode cX10_impact 56 = .ok (.iconst 0, 1) := by decide +kernel
theorem dX10_impact_57 : decode cX10_impact 57 = .ok (.putfield 73, 3) := by decide +kernel
theorem dX10_impact_60 : decode cX10_impact 60 = .ok (.aload_n 0, 1) := by decide +kernel
theorem dX10_impact_61 : decode cX10_impact 61 = .ok (.getfield 73, 3) := by decide +kernel
theorem dX10_impact_64 : decode cX10_impact 64 = .ok (.ifCond .le 5, 3) := by decide +kernel
theorem dX10_impact_67 : decode cX10_impact 67 = .ok (.iconst 0, 1) := by decide +kernel
theorem dX10_impact_68 : decode cX10_impact 68 = .ok (.ireturn, 1) := by decide +kernel
theorem dX10_impact_69 : decode cX10_impact 69 = .ok (.aload_n 0, 1) := by decide +kernel
theorem dX10_impact_70 : decode cX10_impact 70 = .ok (.getfield 29, 3) := by decide +kernel
theorem dX10_impact_73 : decode cX10_impact 73 = .ok (.aload_n 0, 1) := by decide +kernel
theorem dX10_impact_74 : decode cX10_impact 74 = .ok (.getfield 110, 3) := by decide +kernel
theorem dX10_impact_77 : decode cX10_impact 77 = .ok (.iload_n 1, 1) := by decide +kernel
theorem dX10_impact_78 : decode cX10_impact 78 = .ok (.iastore, 1) := by decide +kernel
theorem dX10_impact_79 : decode cX10_impact 79 = .ok (.aload_n 0, 1) := by decide +kernel
theorem dX10_impact_80 : decode cX10_impact 80 = .ok (.getfield 32, 3) := by decide +kernel
theorem dX10_impact_83 : decode cX10_impact 83 = .ok (.aload_n 0, 1) := by decide +kernel
theorem dX10_impact_84 : decode cX10_impact 84 = .ok (.getfield 110, 3) := by decide +kernel
theorem dX10_impact_87 : decode cX10_impact 87 = .ok (.iload_n 2, 1) := by decide +kernel
theorem dX10_impact_88 : decode cX10_impact 88 = .ok (.iastore, 1) := by decide +kernel
theorem dX10_impact_89 : decode cX10_impact 89 = .ok (.aload_n 0, 1) := by decide +kernel
theorem dX10_impact_90 : decode cX10_impact 90 = .ok (.dup, 1) := by decide +kernel
theorem dX10_impact_91 : decode cX10_impact 91 = .ok (.getfield 110, 3) := by decide +kernel
theorem dX10_impact_94 : decode cX10_impact 94 = .ok (.iconst 1, 1) := by decide +kernel
theorem dX10_impact_95 : decode cX10_impact 95 = .ok (.iadd, 1) := by decide +kernel
theorem dX10_impact_96 : decode cX10_impact 96 = .ok (.putfield 110, 3) := by decide +kernel
theorem dX10_impact_99 : decode cX10_impact 99 = .ok (.aload_n 0, 1) := by decide +kernel
theorem dX10_impact_100 : decode cX10_impact 100 = .ok (.iconst 1, 1) := by decide +kernel
theorem dX10_impact_101 : decode cX10_impact 101 = .ok (.invokevirtual 82, 3) := by decide +kernel
theorem dX10_impact_104 : decode cX10_impact 104 = .ok (.aload_n 0, 1) := by decide +kernel
theorem dX10_impact_105 : decode cX10_impact 105 = .ok (.getfield 110, 3) := by decide +kernel
theorem dX10_impact_108 : decode cX10_impact 108 = .ok (.ireturn, 1) := by decide +kernel
set_option maxRecDepth 20000 in
theorem ggX10_vector_X10_isGood : GoodIn wsX10_vector wsX10_isGood := goodIn_r _ [7, 8, 9] (by decide +kernel) (by decide +kernel)
set_option maxRecDepth 20000 in
theorem gX10_vector_X10_isGood : GoodIn wsX10_vector (va_wsS RX10 96 yX10_isGood wsX10_isGood) := goodIn_app (goodIn_of _ (by decide +kernel)) ggX10_vector_X10_isGood
set_option maxRecDepth 20000 in
theorem ggX10_vector_X10_put : GoodIn wsX10_vector wsX10_put := goodIn_r _ [12] (by decide +kernel) (by decide +kernel)
set_option maxRecDepth 20000 in
theorem gX10_vector_X10_put : GoodIn wsX10_vector (va_wsS RX10 100 yX10_put wsX10_put) := goodIn_app (goodIn_of _ (by decide +kernel)) ggX10_vector_X10_put
set_option maxRecDepth 20000 in
theorem ggX10_vector_X10_lose : GoodIn wsX10_vector wsX10_lose := goodIn_r _ [16, 17, 18, 19, 20, 21, 22, 23, 24, 25, 26, 27, 28, 29, 30, 31, 32, 33, 34, 35, 36, 37, 38, 39, 40, 41, 42, 43, 44, 45, 46, 47, 48, 49, 50] (by decide +kernel) (by decide +kernel)
set_option maxRecDepth 20000 in
theorem gX10_vector_X10_lose : GoodIn wsX10_vector (wsV RX10 82 RX10 yX10_lose wsX10_lose) := goodIn_app (goodIn_of _ (by decide +kernel)) ggX10_vector_X10_lose
theorem dX10_vector_0 : decode cX10_vector 0 = .ok (.aload_n 0, 1) := by decide +kernel
theorem dX10_vector_1 : decode cX10_vector 1 = .ok (.fload_n 1, 1) := by decide +kernel
theorem dX10_vector_2 : decode cX10_vector 2 = .ok (.invokestatic 96, 3) := by decide +kernel
theorem dX10_vector_5 : decode cX10_vector 5 = .ok (.ifCond .eq 25, 3) := by decide +kernel
theorem dX10_vector_8 : decode cX10_vector 8 = .ok (.fload_n 2, 1) := by decide +kernel
theorem dX10_vector_9 : decode cX10_vector 9 = .ok (.invokestatic 96, 3) := by decide +kernel
theorem dX10_vector_12 : decode cX10_vector 12 = .ok (.ifCond .eq 18, 3) := by decide +kernel
theorem dX10_vector_15 : decode cX10_vector 15 = .ok (.fload_n 3, 1) := by decide +kernel
theorem dX10_vector_16 : decode cX10_vector 16 = .ok (.invokestatic 96, 3) := by decide +kernel
theorem dX10_vector_19 : decode cX10_vector 19 = .ok (.ifCond .eq 11, 3) := by decide +kernel
theorem dX10_vector_22 : decode cX10_vector 22 = .ok (.fload 4, 2) := by decide +kernel
theorem dX10_vector_24 : decode cX10_vector 24 = .ok (.invokestatic 96, 3) := by decide +kernel
theorem dX10_vector_27 : decode cX10_vector 27 = .ok (.ifCond .ne 7, 3) := by decide +kernel
theorem dX10_vector_30 : decode cX10_vector 30 = .ok (.iconst 1, 1) := by decide +kernel
theorem dX10_vector_31 : decode cX10_vector 31 = .ok (.goto 16, 3) := by decide +kernel
theorem dX10_vector_34 : decode cX10_vector 34 = .ok (.aload_n 0, 1) := by decide +kernel
theorem dX10_vector_35 : decode cX10_vector 35 = .ok (.getfield 113, 3) := by decide +kernel
theorem dX10_vector_38 : decode cX10_vector 38 = .ok (.iconst 3, 1) := by decide +kernel
theorem dX10_vector_39 : decode cX10_vector 39 = .ok (.if_icmp .ne 7, 3) := by decide +kernel
theorem dX10_vector_42 : decode cX10_vector 42 = .ok (.iconst 2, 1) := by decide +kernel
theorem dX10_vector_43 : decode cX10_vector 43 = .ok (.goto 4, 3) := by decide +kernel
theorem dX10_vector_46 : decode cX10_vector 46 = .ok (.iconst 0, 1) := by decide +kernel
theorem dX10_vector_47 : decode cX10_vector 47 = .ok (.putfield 73, 3) := by decide +kernel
theorem dX10_vector_50 : decode cX10_vector 50 = .ok (.aload_n 0, 1) := by decide +kernel
theorem dX10_vector_51 : decode cX10_vector 51 = .ok (.getfield 73, 3) := by decide +kernel
theorem dX10_vector_54 : decode cX10_vector 54 = .ok (.ifCond .le 5, 3) := by decide +kernel
theorem dX10_vector_57 : decode cX10_vector 57 = .ok (.iconst 0, 1) := by decide +kernel
theorem dX10_vector_58 : decode cX10_vector 58 = .ok (.ireturn, 1) := by decide +kernel
theorem dX10_vector_59 : decode cX10_vector 59 = .ok (.aload_n 0, 1) := by decide +kernel
theorem dX10_vector_60 : decode cX10_vector 60 = .ok (.getfield 35, 3) := by decide +kernel
theorem dX10_vector_63 : decode cX10_vector 63 = .ok (.iconst 4, 1) := by decide +kernel
theorem dX10_vector_64 : decode cX10_vector 64 = .ok (.aload_n 0, 1) := by decide +kernel
theorem dX10_vector_65 : decode cX10_vector 65 = .ok (.getfield 113, 3) := by decide +kernel
theorem dX10_vector_68 : decode cX10_vector 68 = .ok (.imul, 1) := by decide +kernel
theorem dX10_vector_69 : decode cX10_vector 69 = .ok (.fload_n 1, 1) := by decide +kernel
theorem dX10_vector_70 : decode cX10_vector 70 = .ok (.fload_n 2, 1) := by decide +kernel
theorem dX10_vector_71 : decode cX10_vector 71 = .ok (.fload_n 3, 1) := by decide +kernel
theorem dX10_vector_72 : decode cX10_vector 72 = .ok (.fload 4, 2) := by decide +kernel
theorem dX10_vector_74 : decode cX10_vector 74 = .ok (.invokestatic 100, 3) := by decide +kernel
theorem dX10_vector_77 : decode cX10_vector 77 = .ok (.aload_n 0, 1) := by decide +kernel
theorem dX10_vector_78 : decode cX10_vector 78 = .ok (.dup, 1) := by decide +kernel
theorem dX10_vector_79 : decode cX10_vector 79 = .ok (.getfield 113, 3) := by decide +kernel
theorem dX10_vector_82 : decode cX10_vector 82 = .ok (.iconst 1, 1) := by decide +kernel
theorem dX10_vector_83 : decode cX10_vector 83 = .ok (.iadd, 1) := by decide +kernel
theorem dX10_vector_84 : decode cX10_vector 84 = .ok (.putfield 113, 3) := by decide +kernel
theorem dX10_vector_87 : decode cX10_vector 87 = .ok (.aload_n 0, 1) := by decide +kernel
theorem dX10_vector_88 : decode cX10_vector 88 = .ok (.iconst 2, 1) := by decide +kernel
theorem dX10_vector_89 : decode cX10_vector 89 = .ok (.invokevirtual 82, 3) := by decide +kernel
theorem dX10_vector_92 : decode cX10_vector 92 = .ok (.aload_n 0, 1) := by decide +kernel
theorem dX10_vector_93 : decode cX10_vector 93 = .ok (.getfield 113, 3) := by decide +kernel
theorem dX10_vector_96 : decode cX10_vector 96 = .ok (.ireturn, 1) := by decide +kernel
theorem dX10_logOf_0 : decode cX10_logOf 0 = .ok (.dload_n 0, 1) := by decide +kernel
theorem dX10_logOf_1 : decode cX10_logOf 1 = .ok (.dstore_n 2, 1) := by decide +kernel
theorem dX10_logOf_2 : decode cX10_logOf 2 = .ok (.iconst 0, 1) := by decide +kernel
theorem dX10_logOf_3 : decode cX10_logOf 3 = .ok (.istore 4, 2) := by decide +kernel
theorem dX10_logOf_5 : decode cX10_logOf 5 = .ok (.dload_n 2, 1) := by decide +kernel
theorem dX10_logOf_6 : decode cX10_logOf 6 = .ok (.ldc2_w 120, 3) := by decide +kernel
theorem dX10_logOf_9 : decode cX10_logOf 9 = .ok (.dcmp .l, 1) := by decide +kernel
theorem dX10_logOf_10 : decode cX10_logOf 10 = .ok (.ifCond .lt 15, 3) := by decide +kernel
theorem dX10_logOf_13 : decode cX10_logOf 13 = .ok (.dload_n 2, 1) := by decide +kernel
theorem dX10_logOf_14 : decode cX10_logOf 14 = .ok (.ldc2_w 120, 3) := by decide +kernel
theorem dX10_logOf_17 : decode cX10_logOf 17 = .ok (.ddiv, 1) := by decide +kernel
theorem dX10_logOf_18 : decode cX10_logOf 18 = .ok (.dstore_n 2, 1) := by decide +kernel
theorem dX10_logOf_19 : decode cX10_logOf 19 = .ok (.iinc 4 1, 3) := by decide +kernel
theorem dX10_logOf_22 : decode cX10_logOf 22 = .ok (.goto (-17), 3) := by decide +kernel
theorem dX10_logOf_25 : decode cX10_logOf 25 = .ok (.dload_n 2, 1) := by decide +kernel
theorem dX10_logOf_26 : decode cX10_logOf 26 = .ok (.dconst 1, 1) := by decide +kernel
theorem dX10_logOf_27 : decode cX10_logOf 27 = .ok (.dsub, 1) := by decide +kernel
theorem dX10_logOf_28 : decode cX10_logOf 28 = .ok (.dload_n 2, 1) := by decide +kernel
theorem dX10_logOf_29 : decode cX10_logOf 29 = .ok (.dconst 1, 1) := by decide +kernel
theorem dX10_logOf_30 : decode cX10_logOf 30 = .ok (.dadd, 1) := by decide +kernel
theorem dX10_logOf_31 : decode cX10_logOf 31 = .ok (.ddiv, 1) := by decide +kernel
theorem dX10_logOf_32 : decode cX10_logOf 32 = .ok (.dstore 5, 2) := by decide +kernel
theorem dX10_logOf_34 : decode cX10_logOf 34 = .ok (.dload 5, 2) := by decide +kernel
theorem dX10_logOf_36 : decode cX10_logOf 36 = .ok (.dstore 7, 2) := by decide +kernel
theorem dX10_logOf_38 : decode cX10_logOf 38 = .ok (.dconst 0, 1) := by decide +kernel
theorem dX10_logOf_39 : decode cX10_logOf 39 = .ok (.dstore 9, 2) := by decide +kernel
theorem dX10_logOf_41 : decode cX10_logOf 41 = .ok (.iconst 1, 1) := by decide +kernel
theorem dX10_logOf_42 : decode cX10_logOf 42 = .ok (.istore 11, 2) := by decide +kernel
theorem dX10_logOf_44 : decode cX10_logOf 44 = .ok (.iload 11, 2) := by decide +kernel
theorem dX10_logOf_46 : decode cX10_logOf 46 = .ok (.bipush 20, 2) := by decide +kernel
theorem dX10_logOf_48 : decode cX10_logOf 48 = .ok (.if_icmp .ge 30, 3) := by decide +kernel
theorem dX10_logOf_51 : decode cX10_logOf 51 = .ok (.dload 9, 2) := by decide +kernel
theorem dX10_logOf_53 : decode cX10_logOf 53 = .ok (.dload 7, 2) := by decide +kernel
theorem dX10_logOf_55 : decode cX10_logOf 55 = .ok (.iload 11, 2) := by decide +kernel
theorem dX10_logOf_57 : decode cX10_logOf 57 = .ok (.i2d, 1) := by decide +kernel
theorem dX10_logOf_58 : decode cX10_logOf 58 = .ok (.ddiv, 1) := by decide +kernel
theorem dX10_logOf_59 : decode cX10_logOf 59 = .ok (.dadd, 1) := by decide +kernel
theorem dX10_logOf_60 : decode cX10_logOf 60 = .ok (.dstore 9, 2) := by decide +kernel
theorem dX10_logOf_62 : decode cX10_logOf 62 = .ok (.dload 7, 2) := by decide +kernel
theorem dX10_logOf_64 : decode cX10_logOf 64 = .ok (.dload 5, 2) := by decide +kernel
theorem dX10_logOf_66 : decode cX10_logOf 66 = .ok (.dload 5, 2) := by decide +kernel
theorem dX10_logOf_68 : decode cX10_logOf 68 = .ok (.dmul, 1) := by decide +kernel
theorem dX10_logOf_69 : decode cX10_logOf 69 = .ok (.dmul, 1) := by decide +kernel
theorem dX10_logOf_70 : decode cX10_logOf 70 = .ok (.dstore 7, 2) := by decide +kernel
theorem dX10_logOf_72 : decode cX10_logOf 72 = .ok (.iinc 11 2, 3) := by decide +kernel
theorem dX10_logOf_75 : decode cX10_logOf 75 = .ok (.goto (-31), 3) := by decide +kernel
theorem dX10_logOf_78 : decode cX10_logOf 78 = .ok (.ldc2_w 120, 3) := by decide +kernel
theorem dX10_logOf_81 : decode cX10_logOf 81 = .ok (.dload 9, 2) := by decide +kernel
theorem dX10_logOf_83 : decode cX10_logOf 83 = .ok (.dmul, 1) := by decide +kernel
theorem dX10_logOf_84 : decode cX10_logOf 84 = .ok (.iload 4, 2) := by decide +kernel
theorem dX10_logOf_86 : decode cX10_logOf 86 = .ok (.i2d, 1) := by decide +kernel
theorem dX10_logOf_87 : decode cX10_logOf 87 = .ok (.ldc2_w 122, 3) := by decide +kernel
theorem dX10_logOf_90 : decode cX10_logOf 90 = .ok (.dmul, 1) := by decide +kernel
theorem dX10_logOf_91 : decode cX10_logOf 91 = .ok (.dadd, 1) := by decide +kernel
theorem dX10_logOf_92 : decode cX10_logOf 92 = .ok (.dreturn, 1) := by decide +kernel
set_option maxRecDepth 20000 in
theorem ggX10_log_X10_logOf : GoodIn wsX10_log wsX10_logOf := goodIn_r _ [7, 8, 9] (by decide +kernel) (by decide +kernel)
set_option maxRecDepth 20000 in
theorem gX10_log_X10_logOf : GoodIn wsX10_log (va_wsS RX10 128 yX10_logOf wsX10_logOf) := goodIn_app (goodIn_of _ (by decide +kernel)) ggX10_log_X10_logOf
theorem dX10_log_0 : decode cX10_log 0 = .ok (.aload_n 0, 1) := by decide +kernel
theorem dX10_log_1 : decode cX10_log 1 = .ok (.iconst 0, 1) := by decide +kernel
theorem dX10_log_2 : decode cX10_log 2 = .ok (.putfield 73, 3) := by decide +kernel
theorem dX10_log_5 : decode cX10_log 5 = .ok (.dload_n 1, 1) := by decide +kernel
theorem dX10_log_6 : decode cX10_log 6 = .ok (.dconst 1, 1) := by decide +kernel
theorem dX10_log_7 : decode cX10_log 7 = .ok (.dcmp .l, 1) := by decide +kernel
theorem dX10_log_8 : decode cX10_log 8 = .ok (.ifCond .lt 18, 3) := by decide +kernel
theorem dX10_log_11 : decode cX10_log 11 = .ok (.dload_n 1, 1) := by decide +kernel
theorem dX10_log_12 : decode cX10_log 12 = .ok (.ldc2_w 126, 3) := by decide +kernel
theorem dX10_log_15 : decode cX10_log 15 = .ok (.dcmp .g, 1) := by decide +kernel
theorem dX10_log_16 : decode cX10_log 16 = .ok (.ifCond .gt 10, 3) := by decide +kernel
theorem dX10_log_19 : decode cX10_log 19 = .ok (.dload_n 1, 1) := by decide +kernel
theorem dX10_log_20 : decode cX10_log 20 = .ok (.invokestatic 128, 3) := by decide +kernel
theorem dX10_log_23 : decode cX10_log 23 = .ok (.goto 6, 3) := by decide +kernel
theorem dX10_log_26 : decode cX10_log 26 = .ok (.ldc2_w 132, 3) := by decide +kernel
theorem dX10_log_29 : decode cX10_log 29 = .ok (.dreturn, 1) := by decide +kernel
theorem dX10_lengthOf_0 : decode cX10_lengthOf 0 = .ok (.iconst 0, 1) := by decide +kernel
theorem dX10_lengthOf_1 : decode cX10_lengthOf 1 = .ok (.istore_n 2, 1) := by decide +kernel
theorem dX10_lengthOf_2 : decode cX10_lengthOf 2 = .ok (.iconst 0, 1) := by decide +kernel
theorem dX10_lengthOf_3 : decode cX10_lengthOf 3 = .ok (.istore_n 3, 1) := by decide +kernel
theorem dX10_lengthOf_4 : decode cX10_lengthOf 4 = .ok (.iload_n 3, 1) := by decide +kernel
theorem dX10_lengthOf_5 : decode cX10_lengthOf 5 = .ok (.bipush 12, 2) := by decide +kernel
theorem dX10_lengthOf_7 : decode cX10_lengthOf 7 = .ok (.if_icmp .ge 23, 3) := by decide +kernel
theorem dX10_lengthOf_10 : decode cX10_lengthOf 10 = .ok (.iload_n 2, 1) := by decide +kernel
theorem dX10_lengthOf_11 : decode cX10_lengthOf 11 = .ok (.aload_n 0, 1) := by decide +kernel
theorem dX10_lengthOf_12 : decode cX10_lengthOf 12 = .ok (.getfield 7, 3) := by decide +kernel
theorem dX10_lengthOf_15 : decode cX10_lengthOf 15 = .ok (.bipush 12, 2) := by decide +kernel
theorem dX10_lengthOf_17 : decode cX10_lengthOf 17 = .ok (.iload_n 1, 1) := by decide +kernel
theorem dX10_lengthOf_18 : decode cX10_lengthOf 18 = .ok (.imul, 1) := by decide +kernel
theorem dX10_lengthOf_19 : decode cX10_lengthOf 19 = .ok (.iload_n 3, 1) := by decide +kernel
theorem dX10_lengthOf_20 : decode cX10_lengthOf 20 = .ok (.iadd, 1) := by decide +kernel
theorem dX10_lengthOf_21 : decode cX10_lengthOf 21 = .ok (.iaload, 1) := by decide +kernel
theorem dX10_lengthOf_22 : decode cX10_lengthOf 22 = .ok (.iadd, 1) := by decide +kernel
theorem dX10_lengthOf_23 : decode cX10_lengthOf 23 = .ok (.istore_n 2, 1) := by decide +kernel
theorem dX10_lengthOf_24 : decode cX10_lengthOf 24 = .ok (.iinc 3 1, 3) := by decide +kernel
theorem dX10_lengthOf_27 : decode cX10_lengthOf 27 = .ok (.goto (-23), 3) := by decide +kernel
theorem dX10_lengthOf_30 : decode cX10_lengthOf 30 = .ok (.iload_n 2, 1) := by decide +kernel
theorem dX10_lengthOf_31 : decode cX10_lengthOf 31 = .ok (.ireturn, 1) := by decide +kernel
set_option maxRecDepth 20000 in
theorem ggX10_addsWord_X10_lengthOf : GoodIn wsX10_addsWord wsX10_lengthOf := goodIn_r _ [12, 1, 18, 19, 20, 21, 22, 23, 24, 25, 26, 27, 28, 29, 30, 31, 32, 33, 34, 35, 36, 37, 38, 39, 40, 41, 42, 43, 44, 45, 46, 47, 48, 49] (by decide +kernel) (by decide +kernel)
set_option maxRecDepth 20000 in
theorem gX10_addsWord_X10_lengthOf : GoodIn wsX10_addsWord (wsV RX10 134 RX10 yX10_lengthOf wsX10_lengthOf) := goodIn_app (goodIn_of _ (by decide +kernel)) ggX10_addsWord_X10_lengthOf
set_option maxRecDepth 20000 in
theorem ggX10_addsWord_X10_logOf : GoodIn wsX10_addsWord wsX10_logOf := goodIn_r _ [15, 16, 17] (by decide +kernel) (by decide +kernel)
set_option maxRecDepth 20000 in
theorem gX10_addsWord_X10_logOf : GoodIn wsX10_addsWord (va_wsS RX10 128 yX10_logOf wsX10_logOf) := goodIn_app (goodIn_of _ (by decide +kernel)) ggX10_addsWord_X10_logOf
theorem dX10_addsWord_0 : decode cX10_addsWord 0 = .ok (.aload_n 0, 1) := by decide +kernel
theorem dX10_addsWord_1 : decode cX10_addsWord 1 = .ok (.getfield 7, 3) := by decide +kernel
theorem dX10_addsWord_4 : decode cX10_addsWord 4 = .ok (.bipush 12, 2) := by decide +kernel
theorem dX10_addsWord_6 : decode cX10_addsWord 6 = .ok (.iload_n 1, 1) := by decide +kernel
theorem dX10_addsWord_7 : decode cX10_addsWord 7 = .ok (.imul, 1) := by decide +kernel
theorem dX10_addsWord_8 : decode cX10_addsWord 8 = .ok (.iload_n 2, 1) := by decide +kernel
theorem dX10_addsWord_9 : decode cX10_addsWord 9 = .ok (.iadd, 1) := by decide +kernel
theorem dX10_addsWord_10 : decode cX10_addsWord 10 = .ok (.iaload, 1) := by decide +kernel
theorem dX10_addsWord_11 : decode cX10_addsWord 11 = .ok (.i2d, 1) := by decide +kernel
theorem dX10_addsWord_12 : decode cX10_addsWord 12 = .ok (.dstore_n 3, 1) := by decide +kernel
theorem dX10_addsWord_13 : decode cX10_addsWord 13 = .ok (.dload_n 3, 1) := by decide +kernel
theorem dX10_addsWord_14 : decode cX10_addsWord 14 = .ok (.dconst 0, 1) := by decide +kernel
theorem dX10_addsWord_15 : decode cX10_addsWord 15 = .ok (.dcmp .l, 1) := by decide +kernel
theorem dX10_addsWord_16 : decode cX10_addsWord 16 = .ok (.ifCond .ne 5, 3) := by decide +kernel
theorem dX10_addsWord_19 : decode cX10_addsWord 19 = .ok (.dconst 0, 1) := by decide +kernel
theorem dX10_addsWord_20 : decode cX10_addsWord 20 = .ok (.dreturn, 1) := by decide +kernel
theorem dX10_addsWord_21 : decode cX10_addsWord 21 = .ok (.aload_n 0, 1) := by decide +kernel
theorem dX10_addsWord_22 : decode cX10_addsWord 22 = .ok (.getfield 86, 3) := by decide +kernel
theorem dX10_addsWord_25 : decode cX10_addsWord 25 = .ok (.i2d, 1) := by decide +kernel
theorem dX10_addsWord_26 : decode cX10_addsWord 26 = .ok (.dstore 5, 2) := by decide +kernel
theorem dX10_addsWord_28 : decode cX10_addsWord 28 = .ok (.dconst 0, 1) := by decide +kernel
theorem dX10_addsWord_29 : decode cX10_addsWord 29 = .ok (.dstore 7, 2) := by decide +kernel
theorem dX10_addsWord_31 : decode cX10_addsWord 31 = .ok (.dconst 0, 1) := by decide +kernel
theorem dX10_addsWord_32 : decode cX10_addsWord 32 = .ok (.dstore 9, 2) := by decide +kernel
theorem dX10_addsWord_34 : decode cX10_addsWord 34 = .ok (.iconst 0, 1) := by decide +kernel
theorem dX10_addsWord_35 : decode cX10_addsWord 35 = .ok (.istore 11, 2) := by decide +kernel
theorem dX10_addsWord_37 : decode cX10_addsWord 37 = .ok (.iload 11, 2) := by decide +kernel
theorem dX10_addsWord_39 : decode cX10_addsWord 39 = .ok (.aload_n 0, 1) := by decide +kernel
theorem dX10_addsWord_40 : decode cX10_addsWord 40 = .ok (.getfield 86, 3) := by decide +kernel
theorem dX10_addsWord_43 : decode cX10_addsWord 43 = .ok (.if_icmp .ge 46, 3) := by decide +kernel
theorem dX10_addsWord_46 : decode cX10_addsWord 46 = .ok (.dload 7, 2) := by decide +kernel
theorem dX10_addsWord_48 : decode cX10_addsWord 48 = .ok (.aload_n 0, 1) := by decide +kernel
theorem dX10_addsWord_49 : decode cX10_addsWord 49 = .ok (.getfield 7, 3) := by decide +kernel
theorem dX10_addsWord_52 : decode cX10_addsWord 52 = .ok (.bipush 12, 2) := by decide +kernel
theorem dX10_addsWord_54 : decode cX10_addsWord 54 = .ok (.iload 11, 2) := by decide +kernel
theorem dX10_addsWord_56 : decode cX10_addsWord 56 = .ok (.imul, 1) := by decide +kernel
theorem dX10_addsWord_57 : decode cX10_addsWord 57 = .ok (.iload_n 2, 1) := by decide +kernel
theorem dX10_addsWord_58 : decode cX10_addsWord 58 = .ok (.iadd, 1) := by decide +kernel
theorem dX10_addsWord_59 : decode cX10_addsWord 59 = .ok (.iaload, 1) := by decide +kernel
theorem dX10_addsWord_60 : decode cX10_addsWord 60 = .ok (.ifCond .le 7, 3) := by decide +kernel
theorem dX10_addsWord_63 : decode cX10_addsWord 63 = .ok (.dconst 1, 1) := by decide +kernel
theorem dX10_addsWord_64 : decode cX10_addsWord 64 = .ok (.goto 4, 3) := by decide +kernel
theorem dX10_addsWord_67 : decode cX10_addsWord 67 = .ok (.dconst 0, 1) := by decide +kernel
theorem dX10_addsWord_68 : decode cX10_addsWord 68 = .ok (.dadd, 1) := by decide +kernel
theorem dX10_addsWord_69 : decode cX10_addsWord 69 = .ok (.dstore 7, 2) := by decide +kernel
theorem dX10_addsWord_71 : decode cX10_addsWord 71 = .ok (.dload 9, 2) := by decide +kernel
theorem dX10_addsWord_73 : decode cX10_addsWord 73 = .ok (.aload_n 0, 1) := by decide +kernel
theorem dX10_addsWord_74 : decode cX10_addsWord 74 = .ok (.iload 11, 2) := by decide +kernel
theorem dX10_addsWord_76 : decode cX10_addsWord 76 = .ok (.invokevirtual 134, 3) := by decide +kernel
theorem dX10_addsWord_79 : decode cX10_addsWord 79 = .ok (.i2d, 1) := by decide +kernel
theorem dX10_addsWord_80 : decode cX10_addsWord 80 = .ok (.dadd, 1) := by decide +kernel
theorem dX10_addsWord_81 : decode cX10_addsWord 81 = .ok (.dstore 9, 2) := by decide +kernel
theorem dX10_addsWord_83 : decode cX10_addsWord 83 = .ok (.iinc 11 1, 3) := by decide +kernel
theorem dX10_addsWord_86 : decode cX10_addsWord 86 = .ok (.goto (-49), 3) := by decide +kernel
theorem dX10_addsWord_89 : decode cX10_addsWord 89 = .ok (.dload 9, 2) := by decide +kernel
theorem dX10_addsWord_91 : decode cX10_addsWord 91 = .ok (.dload 5, 2) := by decide +kernel
theorem dX10_addsWord_93 : decode cX10_addsWord 93 = .ok (.ddiv, 1) := by decide +kernel
theorem dX10_addsWord_94 : decode cX10_addsWord 94 = .ok (.dstore 11, 2) := by decide +kernel
theorem dX10_addsWord_96 : decode cX10_addsWord 96 = .ok (.aload_n 0, 1) := by decide +kernel
theorem dX10_addsWord_97 : decode cX10_addsWord 97 = .ok (.iload_n 1, 1) := by decide +kernel
theorem dX10_addsWord_98 : decode cX10_addsWord 98 = .ok (.invokevirtual 134, 3) := by decide +kernel
theorem dX10_addsWord_101 : decode cX10_addsWord 101 = .ok (.i2d, 1) := by decide +kernel
theorem dX10_addsWord_102 : decode cX10_addsWord 102 = .ok (.dstore 13, 2) := by decide +kernel
theorem dX10_addsWord_104 : decode cX10_addsWord 104 = .ok (.dconst 1, 1) := by decide +kernel
theorem dX10_addsWord_105 : decode cX10_addsWord 105 = .ok (.dload 5, 2) := by decide +kernel
theorem dX10_addsWord_107 : decode cX10_addsWord 107 = .ok (.dload 7, 2) := by decide +kernel
theorem dX10_addsWord_109 : decode cX10_addsWord 109 = .ok (.dsub, 1) := by decide +kernel
theorem dX10_addsWord_110 : decode cX10_addsWord 110 = .ok (.ldc2_w 138, 3) := by decide +kernel
theorem dX10_addsWord_113 : decode cX10_addsWord 113 = .ok (.dadd, 1) := by decide +kernel
theorem dX10_addsWord_114 : decode cX10_addsWord 114 = .ok (.dload 7, 2) := by decide +kernel
theorem dX10_addsWord_116 : decode cX10_addsWord 116 = .ok (.ldc2_w 138, 3) := by decide +kernel
theorem dX10_addsWord_119 : decode cX10_addsWord 119 = .ok (.dadd, 1) := by decide +kernel
theorem dX10_addsWord_120 : decode cX10_addsWord 120 = .ok (.ddiv, 1) := by decide +kernel
theorem dX10_addsWord_121 : decode cX10_addsWord 121 = .ok (.dadd, 1) := by decide +kernel
theorem dX10_addsWord_122 : decode cX10_addsWord 122 = .ok (.invokestatic 128, 3) := by decide +kernel
theorem dX10_addsWord_125 : decode cX10_addsWord 125 = .ok (.dstore 15, 2) := by decide +kernel
theorem dX10_addsWord_127 : decode cX10_addsWord 127 = .ok (.dload 15, 2) := by decide +kernel
theorem dX10_addsWord_129 : decode cX10_addsWord 129 = .ok (.dload_n 3, 1) := by decide +kernel
theorem dX10_addsWord_130 : decode cX10_addsWord 130 = .ok (.ldc2_w 140, 3) := by decide +kernel
theorem dX10_addsWord_133 : decode cX10_addsWord 133 = .ok (.dmul, 1) := by decide +kernel
theorem dX10_addsWord_134 : decode cX10_addsWord 134 = .ok (.dmul, 1) := by decide +kernel
theorem dX10_addsWord_135 : decode cX10_addsWord 135 = .ok (.dload_n 3, 1) := by decide +kernel
theorem dX10_addsWord_136 : decode cX10_addsWord 136 = .ok (.ldc2_w 142, 3) := by decide +kernel
theorem dX10_addsWord_139 : decode cX10_addsWord 139 = .ok (.ldc2_w 144, 3) := by decide +kernel
theorem dX10_addsWord_142 : decode cX10_addsWord 142 = .ok (.ldc2_w 146, 3) := by decide +kernel
theorem dX10_addsWord_145 : decode cX10_addsWord 145 = .ok (.dload 13, 2) := by decide +kernel
theorem dX10_addsWord_147 : decode cX10_addsWord 147 = .ok (.dload 11, 2) := by decide +kernel
theorem dX10_addsWord_149 : decode cX10_addsWord 149 = .ok (.ddiv, 1) := by decide +kernel
theorem dX10_addsWord_150 : decode cX10_addsWord 150 = .ok (.dmul, 1) := by decide +kernel
theorem dX10_addsWord_151 : decode cX10_addsWord 151 = .ok (.dadd, 1) := by decide +kernel
theorem dX10_addsWord_152 : decode cX10_addsWord 152 = .ok (.dmul, 1) := by decide +kernel
theorem dX10_addsWord_153 : decode cX10_addsWord 153 = .ok (.dadd, 1) := by decide +kernel
theorem dX10_addsWord_154 : decode cX10_addsWord 154 = .ok (.ddiv, 1) := by decide +kernel
theorem dX10_addsWord_155 : decode cX10_addsWord 155 = .ok (.dreturn, 1) := by decide +kernel
theorem dX10_impactOf_0 : decode cX10_impactOf 0 = .ok (.aload_n 0, 1) := by decide +kernel
theorem dX10_impactOf_1 : decode cX10_impactOf 1 = .ok (.getfield 13, 3) := by decide +kernel
theorem dX10_impactOf_4 : decode cX10_impactOf 4 = .ok (.bipush 12, 2) := by decide +kernel
theorem dX10_impactOf_6 : decode cX10_impactOf 6 = .ok (.iload_n 1, 1) := by decide +kernel
theorem dX10_impactOf_7 : decode cX10_impactOf 7 = .ok (.imul, 1) := by decide +kernel
theorem dX10_impactOf_8 : decode cX10_impactOf 8 = .ok (.iload_n 2, 1) := by decide +kernel
theorem dX10_impactOf_9 : decode cX10_impactOf 9 = .ok (.iadd, 1) := by decide +kernel
theorem dX10_impactOf_10 : decode cX10_impactOf 10 = .ok (.faload, 1) := by decide +kernel
theorem dX10_impactOf_11 : decode cX10_impactOf 11 = .ok (.fstore_n 3, 1) := by decide +kernel
theorem dX10_impactOf_12 : decode cX10_impactOf 12 = .ok (.fload_n 3, 1) := by decide +kernel
theorem dX10_impactOf_13 : decode cX10_impactOf 13 = .ok (.fconst 0, 1) := by decide +kernel
theorem dX10_impactOf_14 : decode cX10_impactOf 14 = .ok (.fcmp .l, 1) := by decide +kernel
theorem dX10_impactOf_15 : decode cX10_impactOf 15 = .ok (.ifCond .gt 5, 3) := by decide +kernel
theorem dX10_impactOf_18 : decode cX10_impactOf 18 = .ok (.iconst 0, 1) := by decide +kernel
theorem dX10_impactOf_19 : decode cX10_impactOf 19 = .ok (.ireturn, 1) := by decide +kernel
theorem dX10_impactOf_20 : decode cX10_impactOf 20 = .ok (.fconst 0, 1) := by decide +kernel
theorem dX10_impactOf_21 : decode cX10_impactOf 21 = .ok (.fstore 4, 2) := by decide +kernel
theorem dX10_impactOf_23 : decode cX10_impactOf 23 = .ok (.iconst 0, 1) := by decide +kernel
theorem dX10_impactOf_24 : decode cX10_impactOf 24 = .ok (.istore 5, 2) := by decide +kernel
theorem dX10_impactOf_26 : decode cX10_impactOf 26 = .ok (.iload 5, 2) := by decide +kernel
theorem dX10_impactOf_28 : decode cX10_impactOf 28 = .ok (.bipush 12, 2) := by decide +kernel
theorem dX10_impactOf_30 : decode cX10_impactOf 30 = .ok (.aload_n 0, 1) := by decide +kernel
theorem dX10_impactOf_31 : decode cX10_impactOf 31 = .ok (.getfield 86, 3) := by decide +kernel
theorem dX10_impactOf_34 : decode cX10_impactOf 34 = .ok (.imul, 1) := by decide +kernel
theorem dX10_impactOf_35 : decode cX10_impactOf 35 = .ok (.if_icmp .ge 36, 3) := by decide +kernel
theorem dX10_impactOf_38 : decode cX10_impactOf 38 = .ok (.aload_n 0, 1) := by decide +kernel
theorem dX10_impactOf_39 : decode cX10_impactOf 39 = .ok (.getfield 13, 3) := by decide +kernel
theorem dX10_impactOf_42 : decode cX10_impactOf 42 = .ok (.iload 5, 2) := by decide +kernel
theorem dX10_impactOf_44 : decode cX10_impactOf 44 = .ok (.faload, 1) := by decide +kernel
theorem dX10_impactOf_45 : decode cX10_impactOf 45 = .ok (.fload 4, 2) := by decide +kernel
theorem dX10_impactOf_47 : decode cX10_impactOf 47 = .ok (.fcmp .l, 1) := by decide +kernel
theorem dX10_impactOf_48 : decode cX10_impactOf 48 = .ok (.ifCond .le 13, 3) := by decide +kernel
theorem dX10_impactOf_51 : decode cX10_impactOf 51 = .ok (.aload_n 0, 1) := by decide +kernel
theorem dX10_impactOf_52 : decode cX10_impactOf 52 = .ok (.getfield 13, 3) := by decide +kernel
theorem dX10_impactOf_55 : decode cX10_impactOf 55 = .ok (.iload 5, 2) := by decide +kernel
theorem dX10_impactOf_57 : decode cX10_impactOf 57 = .ok (.faload, 1) := by decide +kernel
theorem dX10_impactOf_58 : decode cX10_impactOf 58 = .ok (.goto 5, 3) := by decide +kernel
theorem dX10_impactOf_61 : decode cX10_impactOf 61 = .ok (.fload 4, 2) := by decide +kernel
theorem dX10_impactOf_63 : decode cX10_impactOf 63 = .ok (.fstore 4, 2) := by decide +kernel
theorem dX10_impactOf_65 : decode cX10_impactOf 65 = .ok (.iinc 5 1, 3) := by decide +kernel
theorem dX10_impactOf_68 : decode cX10_impactOf 68 = .ok (.goto (-42), 3) := by decide +kernel
theorem dX10_impactOf_71 : decode cX10_impactOf 71 = .ok (.fload_n 3, 1) := by decide +kernel
theorem dX10_impactOf_72 : decode cX10_impactOf 72 = .ok (.fload 4, 2) := by decide +kernel
theorem dX10_impactOf_74 : decode cX10_impactOf 74 = .ok (.fdiv, 1) := by decide +kernel
theorem dX10_impactOf_75 : decode cX10_impactOf 75 = .ok (.ldc 148, 2) := by decide +kernel
theorem dX10_impactOf_77 : decode cX10_impactOf 77 = .ok (.fmul, 1) := by decide +kernel
theorem dX10_impactOf_78 : decode cX10_impactOf 78 = .ok (.ldc 149, 2) := by decide +kernel
theorem dX10_impactOf_80 : decode cX10_impactOf 80 = .ok (.fadd, 1) := by decide +kernel
theorem dX10_impactOf_81 : decode cX10_impactOf 81 = .ok (.f2i, 1) := by decide +kernel
theorem dX10_impactOf_82 : decode cX10_impactOf 82 = .ok (.ireturn, 1) := by decide +kernel
set_option maxRecDepth 20000 in
theorem ggX10_quantised_X10_outside : GoodIn wsX10_quantised wsX10_outside := goodIn_r _ [6] (by decide +kernel) (by decide +kernel)
set_option maxRecDepth 20000 in
theorem gX10_quantised_X10_outside : GoodIn wsX10_quantised (va_wsS RX10 92 yX10_outside wsX10_outside) := goodIn_app (goodIn_of _ (by decide +kernel)) ggX10_quantised_X10_outside
set_option maxRecDepth 20000 in
theorem ggX10_quantised_X10_impactOf : GoodIn wsX10_quantised wsX10_impactOf := goodIn_r _ [10, 11, 1, 12, 13, 14, 15, 16, 17, 18, 19, 20, 21, 22, 23, 24, 25, 26, 27, 28, 29, 30, 31, 32, 33, 34, 35, 36, 37, 38, 39, 40, 41, 42, 43, 44, 45] (by decide +kernel) (by decide +kernel)
set_option maxRecDepth 20000 in
theorem gX10_quantised_X10_impactOf : GoodIn wsX10_quantised (wsV RX10 150 RX10 yX10_impactOf wsX10_impactOf) := goodIn_app (goodIn_of _ (by decide +kernel)) ggX10_quantised_X10_impactOf
theorem dX10_quantised_0 : decode cX10_quantised 0 = .ok (.aload_n 0, 1) := by decide +kernel
theorem dX10_quantised_1 : decode cX10_quantised 1 = .ok (.iload_n 1, 1) := by decide +kernel
theorem dX10_quantised_2 : decode cX10_quantised 2 = .ok (.aload_n 0, 1) := by decide +kernel
theorem dX10_quantised_3 : decode cX10_quantised 3 = .ok (.getfield 86, 3) := by decide +kernel
theorem dX10_quantised_6 : decode cX10_quantised 6 = .ok (.invokestatic 92, 3) := by decide +kernel
theorem dX10_quantised_9 : decode cX10_quantised 9 = .ok (.ifCond .ne 12, 3) := by decide +kernel
theorem dX10_quantised_12 : decode cX10_quantised 12 = .ok (.iload_n 2, 1) := by decide +kernel
theorem dX10_quantised_13 : decode cX10_quantised 13 = .ok (.bipush 12, 2) := by decide +kernel
theorem dX10_quantised_15 : decode cX10_quantised 15 = .ok (.invokestatic 92, 3) := by decide +kernel
theorem dX10_quantised_18 : decode cX10_quantised 18 = .ok (.ifCond .eq 7, 3) := by decide +kernel
theorem dX10_quantised_21 : decode cX10_quantised 21 = .ok (.iconst 1, 1) := by decide +kernel
theorem dX10_quantised_22 : decode cX10_quantised 22 = .ok (.goto 4, 3) := by decide +kernel
theorem dX10_quantised_25 : decode cX10_quantised 25 = .ok (.iconst 0, 1) := by decide +kernel
theorem dX10_quantised_26 : decode cX10_quantised 26 = .ok (.putfield 73, 3) := by decide +kernel
theorem dX10_quantised_29 : decode cX10_quantised 29 = .ok (.aload_n 0, 1) := by decide +kernel
theorem dX10_quantised_30 : decode cX10_quantised 30 = .ok (.getfield 73, 3) := by decide +kernel
theorem dX10_quantised_33 : decode cX10_quantised 33 = .ok (.ifCond .le 7, 3) := by decide +kernel
theorem dX10_quantised_36 : decode cX10_quantised 36 = .ok (.iconst 0, 1) := by decide +kernel
theorem dX10_quantised_37 : decode cX10_quantised 37 = .ok (.goto 9, 3) := by decide +kernel
theorem dX10_quantised_40 : decode cX10_quantised 40 = .ok (.aload_n 0, 1) := by decide +kernel
theorem dX10_quantised_41 : decode cX10_quantised 41 = .ok (.iload_n 1, 1) := by decide +kernel
theorem dX10_quantised_42 : decode cX10_quantised 42 = .ok (.iload_n 2, 1) := by decide +kernel
theorem dX10_quantised_43 : decode cX10_quantised 43 = .ok (.invokevirtual 150, 3) := by decide +kernel
theorem dX10_quantised_46 : decode cX10_quantised 46 = .ok (.ireturn, 1) := by decide +kernel
set_option maxRecDepth 20000 in
theorem ggX10_adds_X10_addsWord : GoodIn wsX10_adds wsX10_addsWord := goodIn_r _ [8, 9, 10, 11, 12, 13, 14, 15, 16, 17, 18, 7, 19, 20, 21, 22, 23, 24, 32, 33, 34, 35, 36, 37, 38, 39, 40, 41, 42, 43, 44, 45, 46, 47, 48, 49, 50, 51, 52, 53, 54, 55, 56, 57, 58, 59, 60, 61, 62, 63] (by decide +kernel) (by decide +kernel)
set_option maxRecDepth 20000 in
theorem gX10_adds_X10_addsWord : GoodIn wsX10_adds (wsV RX10 154 RX10 yX10_addsWord wsX10_addsWord) := goodIn_app (goodIn_of _ (by decide +kernel)) ggX10_adds_X10_addsWord
set_option maxRecDepth 20000 in
theorem ggX10_adds_X10_impactOf : GoodIn wsX10_adds wsX10_impactOf := goodIn_r _ [28, 29, 10, 30, 31, 32, 33, 34, 35, 36, 37, 38, 39, 40, 41, 42, 43, 44, 45, 46, 47, 48, 49, 50, 51, 52, 53, 54, 55, 56, 57, 58, 59, 60, 61, 62, 63] (by decide +kernel) (by decide +kernel)
set_option maxRecDepth 20000 in
theorem gX10_adds_X10_impactOf : GoodIn wsX10_adds (wsV RX10 150 RX10 yX10_impactOf wsX10_impactOf) := goodIn_app (goodIn_of _ (by decide +kernel)) ggX10_adds_X10_impactOf
theorem dX10_adds_0 : decode cX10_adds 0 = .ok (.iload_n 1, 1) := by decide +kernel
theorem dX10_adds_1 : decode cX10_adds 1 = .ok (.ifCond .ne 17, 3) := by decide +kernel
theorem dX10_adds_4 : decode cX10_adds 4 = .ok (.aload_n 0, 1) := by decide +kernel
theorem dX10_adds_5 : decode cX10_adds 5 = .ok (.iload_n 2, 1) := by decide +kernel
theorem dX10_adds_6 : decode cX10_adds 6 = .ok (.aload_n 0, 1) := by decide +kernel
theorem dX10_adds_7 : decode cX10_adds 7 = .ok (.getfield 26, 3) := by decide +kernel
theorem dX10_adds_10 : decode cX10_adds 10 = .ok (.iload_n 3, 1) := by decide +kernel
theorem dX10_adds_11 : decode cX10_adds 11 = .ok (.iaload, 1) := by decide +kernel
theorem dX10_adds_12 : decode cX10_adds 12 = .ok (.invokevirtual 154, 3) := by decide +kernel
theorem dX10_adds_15 : decode cX10_adds 15 = .ok (.goto 23, 3) := by decide +kernel
theorem dX10_adds_18 : decode cX10_adds 18 = .ok (.aload_n 0, 1) := by decide +kernel
theorem dX10_adds_19 : decode cX10_adds 19 = .ok (.getfield 32, 3) := by decide +kernel
theorem dX10_adds_22 : decode cX10_adds 22 = .ok (.iload_n 3, 1) := by decide +kernel
theorem dX10_adds_23 : decode cX10_adds 23 = .ok (.iaload, 1) := by decide +kernel
theorem dX10_adds_24 : decode cX10_adds 24 = .ok (.i2d, 1) := by decide +kernel
theorem dX10_adds_25 : decode cX10_adds 25 = .ok (.aload_n 0, 1) := by decide +kernel
theorem dX10_adds_26 : decode cX10_adds 26 = .ok (.iload_n 2, 1) := by decide +kernel
theorem dX10_adds_27 : decode cX10_adds 27 = .ok (.aload_n 0, 1) := by decide +kernel
theorem dX10_adds_28 : decode cX10_adds 28 = .ok (.getfield 29, 3) := by decide +kernel
theorem dX10_adds_31 : decode cX10_adds 31 = .ok (.iload_n 3, 1) := by decide +kernel
theorem dX10_adds_32 : decode cX10_adds 32 = .ok (.iaload, 1) := by decide +kernel
theorem dX10_adds_33 : decode cX10_adds 33 = .ok (.invokevirtual 150, 3) := by decide +kernel
theorem dX10_adds_36 : decode cX10_adds 36 = .ok (.i2d, 1) := by decide +kernel
theorem dX10_adds_37 : decode cX10_adds 37 = .ok (.dmul, 1) := by decide +kernel
theorem dX10_adds_38 : decode cX10_adds 38 = .ok (.dreturn, 1) := by decide +kernel
set_option maxRecDepth 20000 in
theorem ggX10_isIn_X10_impactOf : GoodIn wsX10_isIn wsX10_impactOf := goodIn_r _ [8, 9, 10, 11, 12, 13, 14, 15, 16, 17, 18, 19, 20, 21, 22, 23, 24, 25, 26, 27, 28, 29, 30, 31, 32, 33, 34, 35, 36, 37, 38, 39, 40, 41, 42, 43, 44] (by decide +kernel) (by decide +kernel)
set_option maxRecDepth 20000 in
theorem gX10_isIn_X10_impactOf : GoodIn wsX10_isIn (wsV RX10 150 RX10 yX10_impactOf wsX10_impactOf) := goodIn_app (goodIn_of _ (by decide +kernel)) ggX10_isIn_X10_impactOf
theorem dX10_isIn_0 : decode cX10_isIn 0 = .ok (.iload_n 1, 1) := by decide +kernel
theorem dX10_isIn_1 : decode cX10_isIn 1 = .ok (.ifCond .ne 30, 3) := by decide +kernel
theorem dX10_isIn_4 : decode cX10_isIn 4 = .ok (.aload_n 0, 1) := by decide +kernel
theorem dX10_isIn_5 : decode cX10_isIn 5 = .ok (.getfield 7, 3) := by decide +kernel
theorem dX10_isIn_8 : decode cX10_isIn 8 = .ok (.bipush 12, 2) := by decide +kernel
theorem dX10_isIn_10 : decode cX10_isIn 10 = .ok (.iload_n 2, 1) := by decide +kernel
theorem dX10_isIn_11 : decode cX10_isIn 11 = .ok (.imul, 1) := by decide +kernel
theorem dX10_isIn_12 : decode cX10_isIn 12 = .ok (.aload_n 0, 1) := by decide +kernel
theorem dX10_isIn_13 : decode cX10_isIn 13 = .ok (.getfield 26, 3) := by decide +kernel
theorem dX10_isIn_16 : decode cX10_isIn 16 = .ok (.iload_n 3, 1) := by decide +kernel
theorem dX10_isIn_17 : decode cX10_isIn 17 = .ok (.iaload, 1) := by decide +kernel
theorem dX10_isIn_18 : decode cX10_isIn 18 = .ok (.iadd, 1) := by decide +kernel
theorem dX10_isIn_19 : decode cX10_isIn 19 = .ok (.iaload, 1) := by decide +kernel
theorem dX10_isIn_20 : decode cX10_isIn 20 = .ok (.ifCond .le 7, 3) := by decide +kernel
theorem dX10_isIn_23 : decode cX10_isIn 23 = .ok (.iconst 1, 1) := by decide +kernel
theorem dX10_isIn_24 : decode cX10_isIn 24 = .ok (.goto 26, 3) := by decide +kernel
theorem dX10_isIn_27 : decode cX10_isIn 27 = .ok (.iconst 0, 1) := by decide +kernel
theorem dX10_isIn_28 : decode cX10_isIn 28 = .ok (.goto 22, 3) := by decide +kernel
theorem dX10_isIn_31 : decode cX10_isIn 31 = .ok (.aload_n 0, 1) := by decide +kernel
theorem dX10_isIn_32 : decode cX10_isIn 32 = .ok (.iload_n 2, 1) := by decide +kernel
theorem dX10_isIn_33 : decode cX10_isIn 33 = .ok (.aload_n 0, 1) := by decide +kernel
theorem dX10_isIn_34 : decode cX10_isIn 34 = .ok (.getfield 29, 3) := by decide +kernel
theorem dX10_isIn_37 : decode cX10_isIn 37 = .ok (.iload_n 3, 1) := by decide +kernel
theorem dX10_isIn_38 : decode cX10_isIn 38 = .ok (.iaload, 1) := by decide +kernel
theorem dX10_isIn_39 : decode cX10_isIn 39 = .ok (.invokevirtual 150, 3) := by decide +kernel
theorem dX10_isIn_42 : decode cX10_isIn 42 = .ok (.ifCond .le 7, 3) := by decide +kernel
theorem dX10_isIn_45 : decode cX10_isIn 45 = .ok (.iconst 1, 1) := by decide +kernel
theorem dX10_isIn_46 : decode cX10_isIn 46 = .ok (.goto 4, 3) := by decide +kernel
theorem dX10_isIn_49 : decode cX10_isIn 49 = .ok (.iconst 0, 1) := by decide +kernel
theorem dX10_isIn_50 : decode cX10_isIn 50 = .ok (.ireturn, 1) := by decide +kernel
theorem dX10_termsOf_0 : decode cX10_termsOf 0 = .ok (.iload_n 1, 1) := by decide +kernel
theorem dX10_termsOf_1 : decode cX10_termsOf 1 = .ok (.ifCond .ne 10, 3) := by decide +kernel
theorem dX10_termsOf_4 : decode cX10_termsOf 4 = .ok (.aload_n 0, 1) := by decide +kernel
theorem dX10_termsOf_5 : decode cX10_termsOf 5 = .ok (.getfield 107, 3) := by decide +kernel
theorem dX10_termsOf_8 : decode cX10_termsOf 8 = .ok (.goto 7, 3) := by decide +kernel
theorem dX10_termsOf_11 : decode cX10_termsOf 11 = .ok (.aload_n 0, 1) := by decide +kernel
theorem dX10_termsOf_12 : decode cX10_termsOf 12 = .ok (.getfield 110, 3) := by decide +kernel
theorem dX10_termsOf_15 : decode cX10_termsOf 15 = .ok (.ireturn, 1) := by decide +kernel
theorem dX10_product_0 : decode cX10_product 0 = .ok (.fconst 0, 1) := by decide +kernel
theorem dX10_product_1 : decode cX10_product 1 = .ok (.fstore 4, 2) := by decide +kernel
theorem dX10_product_3 : decode cX10_product 3 = .ok (.iconst 0, 1) := by decide +kernel
theorem dX10_product_4 : decode cX10_product 4 = .ok (.istore 5, 2) := by decide +kernel
theorem dX10_product_6 : decode cX10_product 6 = .ok (.iload 5, 2) := by decide +kernel
theorem dX10_product_8 : decode cX10_product 8 = .ok (.iconst 4, 1) := by decide +kernel
theorem dX10_product_9 : decode cX10_product 9 = .ok (.if_icmp .ge 27, 3) := by decide +kernel
theorem dX10_product_12 : decode cX10_product 12 = .ok (.fload 4, 2) := by decide +kernel
theorem dX10_product_14 : decode cX10_product 14 = .ok (.aload_n 0, 1) := by decide +kernel
theorem dX10_product_15 : decode cX10_product 15 = .ok (.iload_n 1, 1) := by decide +kernel
theorem dX10_product_16 : decode cX10_product 16 = .ok (.iload 5, 2) := by decide +kernel
theorem dX10_product_18 : decode cX10_product 18 = .ok (.iadd, 1) := by decide +kernel
theorem dX10_product_19 : decode cX10_product 19 = .ok (.faload, 1) := by decide +kernel
theorem dX10_product_20 : decode cX10_product 20 = .ok (.aload_n 2, 1) := by decide +kernel
theorem dX10_product_21 : decode cX10_product 21 = .ok (.iload_n 3, 1) := by decide +kernel
theorem dX10_product_22 : decode cX10_product 22 = .ok (.iload 5, 2) := by decide +kernel
theorem dX10_product_24 : decode cX10_product 24 = .ok (.iadd, 1) := by decide +kernel
theorem dX10_product_25 : decode cX10_product 25 = .ok (.faload, 1) := by decide +kernel
theorem dX10_product_26 : decode cX10_product 26 = .ok (.fmul, 1) := by decide +kernel
theorem dX10_product_27 : decode cX10_product 27 = .ok (.fadd, 1) := by decide +kernel
theorem dX10_product_28 : decode cX10_product 28 = .ok (.fstore 4, 2) := by decide +kernel
theorem dX10_product_30 : decode cX10_product 30 = .ok (.iinc 5 1, 3) := by decide +kernel
theorem dX10_product_33 : decode cX10_product 33 = .ok (.goto (-27), 3) := by decide +kernel
theorem dX10_product_36 : decode cX10_product 36 = .ok (.fload 4, 2) := by decide +kernel
theorem dX10_product_38 : decode cX10_product 38 = .ok (.freturn, 1) := by decide +kernel
theorem dX10_greater_0 : decode cX10_greater 0 = .ok (.fload_n 0, 1) := by decide +kernel
theorem dX10_greater_1 : decode cX10_greater 1 = .ok (.fload_n 1, 1) := by decide +kernel
theorem dX10_greater_2 : decode cX10_greater 2 = .ok (.fcmp .l, 1) := by decide +kernel
theorem dX10_greater_3 : decode cX10_greater 3 = .ok (.ifCond .le 5, 3) := by decide +kernel
theorem dX10_greater_6 : decode cX10_greater 6 = .ok (.fload_n 0, 1) := by decide +kernel
theorem dX10_greater_7 : decode cX10_greater 7 = .ok (.freturn, 1) := by decide +kernel
theorem dX10_greater_8 : decode cX10_greater 8 = .ok (.fload_n 1, 1) := by decide +kernel
theorem dX10_greater_9 : decode cX10_greater 9 = .ok (.fload_n 0, 1) := by decide +kernel
theorem dX10_greater_10 : decode cX10_greater 10 = .ok (.fcmp .l, 1) := by decide +kernel
theorem dX10_greater_11 : decode cX10_greater 11 = .ok (.ifCond .le 5, 3) := by decide +kernel
theorem dX10_greater_14 : decode cX10_greater 14 = .ok (.fload_n 1, 1) := by decide +kernel
theorem dX10_greater_15 : decode cX10_greater 15 = .ok (.freturn, 1) := by decide +kernel
theorem dX10_greater_16 : decode cX10_greater 16 = .ok (.fload_n 0, 1) := by decide +kernel
theorem dX10_greater_17 : decode cX10_greater 17 = .ok (.fconst 0, 1) := by decide +kernel
theorem dX10_greater_18 : decode cX10_greater 18 = .ok (.fcmp .l, 1) := by decide +kernel
theorem dX10_greater_19 : decode cX10_greater 19 = .ok (.ifCond .ne 9, 3) := by decide +kernel
theorem dX10_greater_22 : decode cX10_greater 22 = .ok (.fload_n 0, 1) := by decide +kernel
theorem dX10_greater_23 : decode cX10_greater 23 = .ok (.fload_n 1, 1) := by decide +kernel
theorem dX10_greater_24 : decode cX10_greater 24 = .ok (.fadd, 1) := by decide +kernel
theorem dX10_greater_25 : decode cX10_greater 25 = .ok (.goto 4, 3) := by decide +kernel
theorem dX10_greater_28 : decode cX10_greater 28 = .ok (.fload_n 0, 1) := by decide +kernel
theorem dX10_greater_29 : decode cX10_greater 29 = .ok (.freturn, 1) := by decide +kernel
set_option maxRecDepth 20000 in
theorem ggX10_matches_X10_termsOf : GoodIn wsX10_matches wsX10_termsOf := goodIn_r _ [7, 8, 9, 25, 26, 27, 28, 29, 30, 31, 32, 33, 34, 35, 36, 37, 38, 39, 40, 41, 42, 43, 44, 45, 46, 47, 48, 49, 50, 51, 52, 53, 54, 55, 56] (by decide +kernel) (by decide +kernel)
set_option maxRecDepth 20000 in
theorem gX10_matches_X10_termsOf : GoodIn wsX10_matches (wsV RX10 158 RX10 yX10_termsOf wsX10_termsOf) := goodIn_app (goodIn_of _ (by decide +kernel)) ggX10_matches_X10_termsOf
set_option maxRecDepth 20000 in
theorem ggX10_matches_X10_isIn : GoodIn wsX10_matches wsX10_isIn := goodIn_r _ [13, 14, 15, 16, 17, 18, 19, 6, 20, 21, 22, 23, 24, 25, 26, 27, 28, 29, 30, 31, 32, 33, 34, 35, 36, 37, 38, 39, 40, 41, 42, 43, 44, 45, 46, 47, 48, 49, 50, 51, 52, 53, 54, 55, 56] (by decide +kernel) (by decide +kernel)
set_option maxRecDepth 20000 in
theorem gX10_matches_X10_isIn : GoodIn wsX10_matches (wsV RX10 161 RX10 yX10_isIn wsX10_isIn) := goodIn_app (goodIn_of _ (by decide +kernel)) ggX10_matches_X10_isIn
theorem dX10_matches_0 : decode cX10_matches 0 = .ok (.iload_n 1, 1) := by decide +kernel
theorem dX10_matches_1 : decode cX10_matches 1 = .ok (.iconst 2, 1) := by decide +kernel
theorem dX10_matches_2 : decode cX10_matches 2 = .ok (.if_icmp .ne 25, 3) := by decide +kernel
theorem dX10_matches_5 : decode cX10_matches 5 = .ok (.aload_n 0, 1) := by decide +kernel
theorem dX10_matches_6 : decode cX10_matches 6 = .ok (.getfield 17, 3) := by decide +kernel
theorem dX10_matches_9 : decode cX10_matches 9 = .ok (.iload_n 2, 1) := by decide +kernel
theorem dX10_matches_10 : decode cX10_matches 10 = .ok (.iaload, 1) := by decide +kernel
theorem dX10_matches_11 : decode cX10_matches 11 = .ok (.ifCond .le 14, 3) := by decide +kernel
theorem dX10_matches_14 : decode cX10_matches 14 = .ok (.aload_n 0, 1) := by decide +kernel
theorem dX10_matches_15 : decode cX10_matches 15 = .ok (.getfield 113, 3) := by decide +kernel
theorem dX10_matches_18 : decode cX10_matches 18 = .ok (.ifCond .le 7, 3) := by decide +kernel
theorem dX10_matches_21 : decode cX10_matches 21 = .ok (.iconst 1, 1) := by decide +kernel
theorem dX10_matches_22 : decode cX10_matches 22 = .ok (.goto 4, 3) := by decide +kernel
theorem dX10_matches_25 : decode cX10_matches 25 = .ok (.iconst 0, 1) := by decide +kernel
theorem dX10_matches_26 : decode cX10_matches 26 = .ok (.ireturn, 1) := by decide +kernel
theorem dX10_matches_27 : decode cX10_matches 27 = .ok (.iconst 0, 1) := by decide +kernel
theorem dX10_matches_28 : decode cX10_matches 28 = .ok (.istore_n 3, 1) := by decide +kernel
theorem dX10_matches_29 : decode cX10_matches 29 = .ok (.iconst 0, 1) := by decide +kernel
theorem dX10_matches_30 : decode cX10_matches 30 = .ok (.istore 4, 2) := by decide +kernel
theorem dX10_matches_32 : decode cX10_matches 32 = .ok (.iload 4, 2) := by decide +kernel
theorem dX10_matches_34 : decode cX10_matches 34 = .ok (.aload_n 0, 1) := by decide +kernel
theorem dX10_matches_35 : decode cX10_matches 35 = .ok (.iload_n 1, 1) := by decide +kernel
theorem dX10_matches_36 : decode cX10_matches 36 = .ok (.invokevirtual 158, 3) := by decide +kernel
theorem dX10_matches_39 : decode cX10_matches 39 = .ok (.if_icmp .ge 30, 3) := by decide +kernel
theorem dX10_matches_42 : decode cX10_matches 42 = .ok (.iload_n 3, 1) := by decide +kernel
theorem dX10_matches_43 : decode cX10_matches 43 = .ok (.ifCond .ne 14, 3) := by decide +kernel
theorem dX10_matches_46 : decode cX10_matches 46 = .ok (.aload_n 0, 1) := by decide +kernel
theorem dX10_matches_47 : decode cX10_matches 47 = .ok (.iload_n 1, 1) := by decide +kernel
theorem dX10_matches_48 : decode cX10_matches 48 = .ok (.iload_n 2, 1) := by decide +kernel
theorem dX10_matches_49 : decode cX10_matches 49 = .ok (.iload 4, 2) := by decide +kernel
theorem dX10_matches_51 : decode cX10_matches 51 = .ok (.invokevirtual 161, 3) := by decide +kernel
theorem dX10_matches_54 : decode cX10_matches 54 = .ok (.ifCond .eq 7, 3) := by decide +kernel
theorem dX10_matches_57 : decode cX10_matches 57 = .ok (.iconst 1, 1) := by decide +kernel
theorem dX10_matches_58 : decode cX10_matches 58 = .ok (.goto 4, 3) := by decide +kernel
theorem dX10_matches_61 : decode cX10_matches 61 = .ok (.iconst 0, 1) := by decide +kernel
theorem dX10_matches_62 : decode cX10_matches 62 = .ok (.istore_n 3, 1) := by decide +kernel
theorem dX10_matches_63 : decode cX10_matches 63 = .ok (.iinc 4 1, 3) := by decide +kernel
theorem dX10_matches_66 : decode cX10_matches 66 = .ok (.goto (-34), 3) := by decide +kernel
theorem dX10_matches_69 : decode cX10_matches 69 = .ok (.iload_n 3, 1) := by decide +kernel
theorem dX10_matches_70 : decode cX10_matches 70 = .ok (.ireturn, 1) := by decide +kernel
set_option maxRecDepth 20000 in
theorem ggX10_scoreOf_X10_termsOf : GoodIn wsX10_scoreOf wsX10_termsOf := goodIn_r _ [9, 10, 11, 56, 57, 58, 59, 60, 61, 62, 63, 64, 65, 66, 67, 68, 69, 70, 71, 72, 73, 74, 75, 76, 77, 78, 79, 80, 81, 82, 83, 84, 85, 86, 87] (by decide +kernel) (by decide +kernel)
set_option maxRecDepth 20000 in
theorem gX10_scoreOf_X10_termsOf : GoodIn wsX10_scoreOf (wsV RX10 158 RX10 yX10_termsOf wsX10_termsOf) := goodIn_app (goodIn_of _ (by decide +kernel)) ggX10_scoreOf_X10_termsOf
set_option maxRecDepth 20000 in
theorem ggX10_scoreOf_X10_isIn : GoodIn wsX10_scoreOf wsX10_isIn := goodIn_r _ [15, 16, 17, 18, 19, 20, 21, 8, 22, 23, 24, 25, 26, 56, 57, 58, 59, 60, 61, 62, 63, 64, 65, 66, 67, 68, 69, 70, 71, 72, 73, 74, 75, 76, 77, 78, 79, 80, 81, 82, 83, 84, 85, 86, 87] (by decide +kernel) (by decide +kernel)
set_option maxRecDepth 20000 in
theorem gX10_scoreOf_X10_isIn : GoodIn wsX10_scoreOf (wsV RX10 161 RX10 yX10_isIn wsX10_isIn) := goodIn_app (goodIn_of _ (by decide +kernel)) ggX10_scoreOf_X10_isIn
set_option maxRecDepth 20000 in
theorem ggX10_scoreOf_X10_adds : GoodIn wsX10_scoreOf wsX10_adds := goodIn_r _ [30, 17, 31, 18, 32, 33, 34, 8, 35, 16, 24, 36, 37, 38, 39, 40, 41, 42, 43, 44, 45, 46, 47, 48, 49, 19, 20, 21, 22, 23, 25, 26, 56, 57, 58, 59, 60, 61, 62, 63, 64, 65, 66, 67, 68, 69, 70, 71, 72, 73, 74, 75, 76, 77, 78, 79, 80, 81, 82, 83, 84, 85, 86, 87] (by decide +kernel) (by decide +kernel)
set_option maxRecDepth 20000 in
theorem gX10_scoreOf_X10_adds : GoodIn wsX10_scoreOf (wsV RX10 165 RX10 yX10_adds wsX10_adds) := goodIn_app (goodIn_of _ (by decide +kernel)) ggX10_scoreOf_X10_adds
set_option maxRecDepth 20000 in
theorem ggX10_scoreOf_X10_product : GoodIn wsX10_scoreOf wsX10_product := goodIn_r _ [52] (by decide +kernel) (by decide +kernel)
set_option maxRecDepth 20000 in
theorem gX10_scoreOf_X10_product : GoodIn wsX10_scoreOf (va_wsS RX10 169 yX10_product wsX10_product) := goodIn_app (goodIn_of _ (by decide +kernel)) ggX10_scoreOf_X10_product
set_option maxRecDepth 20000 in
theorem ggX10_scoreOf_X10_greater : GoodIn wsX10_scoreOf wsX10_greater := goodIn_r _ [55] (by decide +kernel) (by decide +kernel)
set_option maxRecDepth 20000 in
theorem gX10_scoreOf_X10_greater : GoodIn wsX10_scoreOf (va_wsS RX10 173 yX10_greater wsX10_greater) := goodIn_app (goodIn_of _ (by decide +kernel)) ggX10_scoreOf_X10_greater
theorem dX10_scoreOf_0 : decode cX10_scoreOf 0 = .ok (.dconst 0, 1) := by decide +kernel
theorem dX10_scoreOf_1 : decode cX10_scoreOf 1 = .ok (.dstore_n 3, 1) := by decide +kernel
theorem dX10_scoreOf_2 : decode cX10_scoreOf 2 = .ok (.iconst 0, 1) := by decide +kernel
theorem dX10_scoreOf_3 : decode cX10_scoreOf 3 = .ok (.istore 5, 2) := by decide +kernel
theorem dX10_scoreOf_5 : decode cX10_scoreOf 5 = .ok (.iload_n 1, 1) := by decide +kernel
theorem dX10_scoreOf_6 : decode cX10_scoreOf 6 = .ok (.iconst 2, 1) := by decide +kernel
theorem dX10_scoreOf_7 : decode cX10_scoreOf 7 = .ok (.if_icmp .eq 45, 3) := by decide +kernel
theorem dX10_scoreOf_10 : decode cX10_scoreOf 10 = .ok (.iload 5, 2) := by decide +kernel
theorem dX10_scoreOf_12 : decode cX10_scoreOf 12 = .ok (.aload_n 0, 1) := by decide +kernel
theorem dX10_scoreOf_13 : decode cX10_scoreOf 13 = .ok (.iload_n 1, 1) := by decide +kernel
theorem dX10_scoreOf_14 : decode cX10_scoreOf 14 = .ok (.invokevirtual 158, 3) := by decide +kernel
theorem dX10_scoreOf_17 : decode cX10_scoreOf 17 = .ok (.if_icmp .ge 35, 3) := by decide +kernel
theorem dX10_scoreOf_20 : decode cX10_scoreOf 20 = .ok (.aload_n 0, 1) := by decide +kernel
theorem dX10_scoreOf_21 : decode cX10_scoreOf 21 = .ok (.iload_n 1, 1) := by decide +kernel
theorem dX10_scoreOf_22 : decode cX10_scoreOf 22 = .ok (.iload_n 2, 1) := by decide +kernel
theorem dX10_scoreOf_23 : decode cX10_scoreOf 23 = .ok (.iload 5, 2) := by decide +kernel
theorem dX10_scoreOf_25 : decode cX10_scoreOf 25 = .ok (.invokevirtual 161, 3) := by decide +kernel
theorem dX10_scoreOf_28 : decode cX10_scoreOf 28 = .ok (.ifCond .eq 16, 3) := by decide +kernel
theorem dX10_scoreOf_31 : decode cX10_scoreOf 31 = .ok (.dload_n 3, 1) := by decide +kernel
theorem dX10_scoreOf_32 : decode cX10_scoreOf 32 = .ok (.aload_n 0, 1) := by decide +kernel
theorem dX10_scoreOf_33 : decode cX10_scoreOf 33 = .ok (.iload_n 1, 1) := by decide +kernel
theorem dX10_scoreOf_34 : decode cX10_scoreOf 34 = .ok (.iload_n 2, 1) := by decide +kernel
theorem dX10_scoreOf_35 : decode cX10_scoreOf 35 = .ok (.iload 5, 2) := by decide +kernel
theorem dX10_scoreOf_37 : decode cX10_scoreOf 37 = .ok (.invokevirtual 165, 3) := by decide +kernel
theorem dX10_scoreOf_40 : decode cX10_scoreOf 40 = .ok (.dadd, 1) := by decide +kernel
theorem dX10_scoreOf_41 : decode cX10_scoreOf 41 = .ok (.goto 4, 3) := by decide +kernel
theorem dX10_scoreOf_44 : decode cX10_scoreOf 44 = .ok (.dload_n 3, 1) := by decide +kernel
theorem dX10_scoreOf_45 : decode cX10_scoreOf 45 = .ok (.dstore_n 3, 1) := by decide +kernel
theorem dX10_scoreOf_46 : decode cX10_scoreOf 46 = .ok (.iinc 5 1, 3) := by decide +kernel
theorem dX10_scoreOf_49 : decode cX10_scoreOf 49 = .ok (.goto (-44), 3) := by decide +kernel
theorem dX10_scoreOf_52 : decode cX10_scoreOf 52 = .ok (.iload_n 1, 1) := by decide +kernel
theorem dX10_scoreOf_53 : decode cX10_scoreOf 53 = .ok (.iconst 2, 1) := by decide +kernel
theorem dX10_scoreOf_54 : decode cX10_scoreOf 54 = .ok (.if_icmp .eq 5, 3) := by decide +kernel
theorem dX10_scoreOf_57 : decode cX10_scoreOf 57 = .ok (.dload_n 3, 1) := by decide +kernel
theorem dX10_scoreOf_58 : decode cX10_scoreOf 58 = .ok (.dreturn, 1) := by decide +kernel
theorem dX10_scoreOf_59 : decode cX10_scoreOf 59 = .ok (.fconst 0, 1) := by decide +kernel
theorem dX10_scoreOf_60 : decode cX10_scoreOf 60 = .ok (.fstore 5, 2) := by decide +kernel
theorem dX10_scoreOf_62 : decode cX10_scoreOf 62 = .ok (.iconst 0, 1) := by decide +kernel
theorem dX10_scoreOf_63 : decode cX10_scoreOf 63 = .ok (.istore 6, 2) := by decide +kernel
theorem dX10_scoreOf_65 : decode cX10_scoreOf 65 = .ok (.iload 6, 2) := by decide +kernel
theorem dX10_scoreOf_67 : decode cX10_scoreOf 67 = .ok (.aload_n 0, 1) := by decide +kernel
theorem dX10_scoreOf_68 : decode cX10_scoreOf 68 = .ok (.getfield 113, 3) := by decide +kernel
theorem dX10_scoreOf_71 : decode cX10_scoreOf 71 = .ok (.if_icmp .ge 88, 3) := by decide +kernel
theorem dX10_scoreOf_74 : decode cX10_scoreOf 74 = .ok (.aload_n 0, 1) := by decide +kernel
theorem dX10_scoreOf_75 : decode cX10_scoreOf 75 = .ok (.getfield 35, 3) := by decide +kernel
theorem dX10_scoreOf_78 : decode cX10_scoreOf 78 = .ok (.iconst 4, 1) := by decide +kernel
theorem dX10_scoreOf_79 : decode cX10_scoreOf 79 = .ok (.iload 6, 2) := by decide +kernel
theorem dX10_scoreOf_81 : decode cX10_scoreOf 81 = .ok (.imul, 1) := by decide +kernel
theorem dX10_scoreOf_82 : decode cX10_scoreOf 82 = .ok (.aload_n 0, 1) := by decide +kernel
theorem dX10_scoreOf_83 : decode cX10_scoreOf 83 = .ok (.getfield 20, 3) := by decide +kernel
theorem dX10_scoreOf_86 : decode cX10_scoreOf 86 = .ok (.bipush 16, 2) := by decide +kernel
theorem dX10_scoreOf_88 : decode cX10_scoreOf 88 = .ok (.iload_n 2, 1) := by decide +kernel
theorem dX10_scoreOf_89 : decode cX10_scoreOf 89 = .ok (.imul, 1) := by decide +kernel
theorem dX10_scoreOf_90 : decode cX10_scoreOf 90 = .ok (.invokestatic 169, 3) := by decide +kernel
theorem dX10_scoreOf_93 : decode cX10_scoreOf 93 = .ok (.fstore 7, 2) := by decide +kernel
theorem dX10_scoreOf_95 : decode cX10_scoreOf 95 = .ok (.iconst 1, 1) := by decide +kernel
theorem dX10_scoreOf_96 : decode cX10_scoreOf 96 = .ok (.istore 8, 2) := by decide +kernel
theorem dX10_scoreOf_98 : decode cX10_scoreOf 98 = .ok (.iload 8, 2) := by decide +kernel
theorem dX10_scoreOf_100 : decode cX10_scoreOf 100 = .ok (.aload_n 0, 1) := by decide +kernel
theorem dX10_scoreOf_101 : decode cX10_scoreOf 101 = .ok (.getfield 17, 3) := by decide +kernel
theorem dX10_scoreOf_104 : decode cX10_scoreOf 104 = .ok (.iload_n 2, 1) := by decide +kernel
theorem dX10_scoreOf_105 : decode cX10_scoreOf 105 = .ok (.iaload, 1) := by decide +kernel
theorem dX10_scoreOf_106 : decode cX10_scoreOf 106 = .ok (.if_icmp .ge 40, 3) := by decide +kernel
theorem dX10_scoreOf_109 : decode cX10_scoreOf 109 = .ok (.fload 7, 2) := by decide +kernel
theorem dX10_scoreOf_111 : decode cX10_scoreOf 111 = .ok (.aload_n 0, 1) := by decide +kernel
theorem dX10_scoreOf_112 : decode cX10_scoreOf 112 = .ok (.getfield 35, 3) := by decide +kernel
theorem dX10_scoreOf_115 : decode cX10_scoreOf 115 = .ok (.iconst 4, 1) := by decide +kernel
theorem dX10_scoreOf_116 : decode cX10_scoreOf 116 = .ok (.iload 6, 2) := by decide +kernel
theorem dX10_scoreOf_118 : decode cX10_scoreOf 118 = .ok (.imul, 1) := by decide +kernel
theorem dX10_scoreOf_119 : decode cX10_scoreOf 119 = .ok (.aload_n 0, 1) := by decide +kernel
theorem dX10_scoreOf_120 : decode cX10_scoreOf 120 = .ok (.getfield 20, 3) := by decide +kernel
theorem dX10_scoreOf_123 : decode cX10_scoreOf 123 = .ok (.bipush 16, 2) := by decide +kernel
theorem dX10_scoreOf_125 : decode cX10_scoreOf 125 = .ok (.iload_n 2, 1) := by decide +kernel
theorem dX10_scoreOf_126 : decode cX10_scoreOf 126 = .ok (.imul, 1) := by decide +kernel
theorem dX10_scoreOf_127 : decode cX10_scoreOf 127 = .ok (.iconst 4, 1) := by decide +kernel
theorem dX10_scoreOf_128 : decode cX10_scoreOf 128 = .ok (.iload 8, 2) := by decide +kernel
theorem dX10_scoreOf_130 : decode cX10_scoreOf 130 = .ok (.imul, 1) := by decide +kernel
theorem dX10_scoreOf_131 : decode cX10_scoreOf 131 = .ok (.iadd, 1) := by decide +kernel
theorem dX10_scoreOf_132 : decode cX10_scoreOf 132 = .ok (.invokestatic 169, 3) := by decide +kernel
theorem dX10_scoreOf_135 : decode cX10_scoreOf 135 = .ok (.invokestatic 173, 3) := by decide +kernel
theorem dX10_scoreOf_138 : decode cX10_scoreOf 138 = .ok (.fstore 7, 2) := by decide +kernel
theorem dX10_scoreOf_140 : decode cX10_scoreOf 140 = .ok (.iinc 8 1, 3) := by decide +kernel
theorem dX10_scoreOf_143 : decode cX10_scoreOf 143 = .ok (.goto (-45), 3) := by decide +kernel
theorem dX10_scoreOf_146 : decode cX10_scoreOf 146 = .ok (.fload 5, 2) := by decide +kernel
theorem dX10_scoreOf_148 : decode cX10_scoreOf 148 = .ok (.fload 7, 2) := by decide +kernel
theorem dX10_scoreOf_150 : decode cX10_scoreOf 150 = .ok (.fadd, 1) := by decide +kernel
theorem dX10_scoreOf_151 : decode cX10_scoreOf 151 = .ok (.fstore 5, 2) := by decide +kernel
theorem dX10_scoreOf_153 : decode cX10_scoreOf 153 = .ok (.iinc 6 1, 3) := by decide +kernel
theorem dX10_scoreOf_156 : decode cX10_scoreOf 156 = .ok (.goto (-91), 3) := by decide +kernel
theorem dX10_scoreOf_159 : decode cX10_scoreOf 159 = .ok (.fload 5, 2) := by decide +kernel
theorem dX10_scoreOf_161 : decode cX10_scoreOf 161 = .ok (.f2d, 1) := by decide +kernel
theorem dX10_scoreOf_162 : decode cX10_scoreOf 162 = .ok (.dreturn, 1) := by decide +kernel
theorem dX10_enter_0 : decode cX10_enter 0 = .ok (.aload_n 0, 1) := by decide +kernel
theorem dX10_enter_1 : decode cX10_enter 1 = .ok (.getfield 177, 3) := by decide +kernel
theorem dX10_enter_4 : decode cX10_enter 4 = .ok (.istore 5, 2) := by decide +kernel
theorem dX10_enter_6 : decode cX10_enter 6 = .ok (.iload 5, 2) := by decide +kernel
theorem dX10_enter_8 : decode cX10_enter 8 = .ok (.ifCond .le 50, 3) := by decide +kernel
theorem dX10_enter_11 : decode cX10_enter 11 = .ok (.aload_n 0, 1) := by decide +kernel
theorem dX10_enter_12 : decode cX10_enter 12 = .ok (.getfield 58, 3) := by decide +kernel
theorem dX10_enter_15 : decode cX10_enter 15 = .ok (.iload 5, 2) := by decide +kernel
theorem dX10_enter_17 : decode cX10_enter 17 = .ok (.iconst 1, 1) := by decide +kernel
theorem dX10_enter_18 : decode cX10_enter 18 = .ok (.isub, 1) := by decide +kernel
theorem dX10_enter_19 : decode cX10_enter 19 = .ok (.daload, 1) := by decide +kernel
theorem dX10_enter_20 : decode cX10_enter 20 = .ok (.dload_n 2, 1) := by decide +kernel
theorem dX10_enter_21 : decode cX10_enter 21 = .ok (.dcmp .g, 1) := by decide +kernel
theorem dX10_enter_22 : decode cX10_enter 22 = .ok (.ifCond .lt 30, 3) := by decide +kernel
theorem dX10_enter_25 : decode cX10_enter 25 = .ok (.aload_n 0, 1) := by decide +kernel
theorem dX10_enter_26 : decode cX10_enter 26 = .ok (.getfield 58, 3) := by decide +kernel
theorem dX10_enter_29 : decode cX10_enter 29 = .ok (.iload 5, 2) := by decide +kernel
theorem dX10_enter_31 : decode cX10_enter 31 = .ok (.iconst 1, 1) := by decide +kernel
theorem dX10_enter_32 : decode cX10_enter 32 = .ok (.isub, 1) := by decide +kernel
theorem dX10_enter_33 : decode cX10_enter 33 = .ok (.daload, 1) := by decide +kernel
theorem dX10_enter_34 : decode cX10_enter 34 = .ok (.dload_n 2, 1) := by decide +kernel
theorem dX10_enter_35 : decode cX10_enter 35 = .ok (.dcmp .l, 1) := by decide +kernel
theorem dX10_enter_36 : decode cX10_enter 36 = .ok (.ifCond .ne 22, 3) := by decide +kernel
theorem dX10_enter_39 : decode cX10_enter 39 = .ok (.aload_n 0, 1) := by decide +kernel
theorem dX10_enter_40 : decode cX10_enter 40 = .ok (.getfield 55, 3) := by decide +kernel
theorem dX10_enter_43 : decode cX10_enter 43 = .ok (.iload 5, 2) := by decide +kernel
theorem dX10_enter_45 : decode cX10_enter 45 = .ok (.iconst 1, 1) := by decide +kernel
theorem dX10_enter_46 : decode cX10_enter 46 = .ok (.isub, 1) := by decide +kernel
theorem dX10_enter_47 : decode cX10_enter 47 = .ok (.iaload, 1) := by decide +kernel
theorem dX10_enter_48 : decode cX10_enter 48 = .ok (.iload_n 1, 1) := by decide +kernel
theorem dX10_enter_49 : decode cX10_enter 49 = .ok (.if_icmp .le 9, 3) := by decide +kernel
theorem dX10_enter_52 : decode cX10_enter 52 = .ok (.iinc 5 (-1), 3) := by decide +kernel
theorem dX10_enter_55 : decode cX10_enter 55 = .ok (.goto (-49), 3) := by decide +kernel
theorem dX10_enter_58 : decode cX10_enter 58 = .ok (.aload_n 0, 1) := by decide +kernel
theorem dX10_enter_59 : decode cX10_enter 59 = .ok (.getfield 177, 3) := by decide +kernel
theorem dX10_enter_62 : decode cX10_enter 62 = .ok (.istore 6, 2) := by decide +kernel
theorem dX10_enter_64 : decode cX10_enter 64 = .ok (.iload 6, 2) := by decide +kernel
theorem dX10_enter_66 : decode cX10_enter 66 = .ok (.iload 5, 2) := by decide +kernel
theorem dX10_enter_68 : decode cX10_enter 68 = .ok (.if_icmp .le 41, 3) := by decide +kernel
theorem dX10_enter_71 : decode cX10_enter 71 = .ok (.aload_n 0, 1) := by decide +kernel
theorem dX10_enter_72 : decode cX10_enter 72 = .ok (.getfield 55, 3) := by decide +kernel
theorem dX10_enter_75 : decode cX10_enter 75 = .ok (.iload 6, 2) := by decide +kernel
theorem dX10_enter_77 : decode cX10_enter 77 = .ok (.aload_n 0, 1) := by decide +kernel
theorem dX10_enter_78 : decode cX10_enter 78 = .ok (.getfield 55, 3) := by decide +kernel
theorem dX10_enter_81 : decode cX10_enter 81 = .ok (.iload 6, 2) := by decide +kernel
theorem dX10_enter_83 : decode cX10_enter 83 = .ok (.iconst 1, 1) := by decide +kernel
theorem dX10_enter_84 : decode cX10_enter 84 = .ok (.isub, 1) := by decide +kernel
theorem dX10_enter_85 : decode cX10_enter 85 = .ok (.iaload, 1) := by decide +kernel
theorem dX10_enter_86 : decode cX10_enter 86 = .ok (.iastore, 1) := by decide +kernel
theorem dX10_enter_87 : decode cX10_enter 87 = .ok (.aload_n 0, 1) := by decide +kernel
theorem dX10_enter_88 : decode cX10_enter 88 = .ok (.getfield 58, 3) := by decide +kernel
theorem dX10_enter_91 : decode cX10_enter 91 = .ok (.iload 6, 2) := by decide +kernel
theorem dX10_enter_93 : decode cX10_enter 93 = .ok (.aload_n 0, 1) := by decide +kernel
theorem dX10_enter_94 : decode cX10_enter 94 = .ok (.getfield 58, 3) := by decide +kernel
theorem dX10_enter_97 : decode cX10_enter 97 = .ok (.iload 6, 2) := by decide +kernel
theorem dX10_enter_99 : decode cX10_enter 99 = .ok (.iconst 1, 1) := by decide +kernel
theorem dX10_enter_100 : decode cX10_enter 100 = .ok (.isub, 1) := by decide +kernel
theorem dX10_enter_101 : decode cX10_enter 101 = .ok (.daload, 1) := by decide +kernel
theorem dX10_enter_102 : decode cX10_enter 102 = .ok (.dastore, 1) := by decide +kernel
theorem dX10_enter_103 : decode cX10_enter 103 = .ok (.iinc 6 (-1), 3) := by decide +kernel
theorem dX10_enter_106 : decode cX10_enter 106 = .ok (.goto (-42), 3) := by decide +kernel
theorem dX10_enter_109 : decode cX10_enter 109 = .ok (.aload_n 0, 1) := by decide +kernel
theorem dX10_enter_110 : decode cX10_enter 110 = .ok (.getfield 55, 3) := by decide +kernel
theorem dX10_enter_113 : decode cX10_enter 113 = .ok (.iload 5, 2) := by decide +kernel
theorem dX10_enter_115 : decode cX10_enter 115 = .ok (.iload_n 1, 1) := by decide +kernel
theorem dX10_enter_116 : decode cX10_enter 116 = .ok (.iastore, 1) := by decide +kernel
theorem dX10_enter_117 : decode cX10_enter 117 = .ok (.aload_n 0, 1) := by decide +kernel
theorem dX10_enter_118 : decode cX10_enter 118 = .ok (.getfield 58, 3) := by decide +kernel
theorem dX10_enter_121 : decode cX10_enter 121 = .ok (.iload 5, 2) := by decide +kernel
theorem dX10_enter_123 : decode cX10_enter 123 = .ok (.dload_n 2, 1) := by decide +kernel
theorem dX10_enter_124 : decode cX10_enter 124 = .ok (.dastore, 1) := by decide +kernel
theorem dX10_enter_125 : decode cX10_enter 125 = .ok (.aload_n 0, 1) := by decide +kernel
theorem dX10_enter_126 : decode cX10_enter 126 = .ok (.aload_n 0, 1) := by decide +kernel
theorem dX10_enter_127 : decode cX10_enter 127 = .ok (.getfield 177, 3) := by decide +kernel
theorem dX10_enter_130 : decode cX10_enter 130 = .ok (.iload 4, 2) := by decide +kernel
theorem dX10_enter_132 : decode cX10_enter 132 = .ok (.if_icmp .ge 12, 3) := by decide +kernel
theorem dX10_enter_135 : decode cX10_enter 135 = .ok (.aload_n 0, 1) := by decide +kernel
theorem dX10_enter_136 : decode cX10_enter 136 = .ok (.getfield 177, 3) := by decide +kernel
theorem dX10_enter_139 : decode cX10_enter 139 = .ok (.iconst 1, 1) := by decide +kernel
theorem dX10_enter_140 : decode cX10_enter 140 = .ok (.iadd, 1) := by decide +kernel
theorem dX10_enter_141 : decode cX10_enter 141 = .ok (.goto 5, 3) := by decide +kernel
theorem dX10_enter_144 : decode cX10_enter 144 = .ok (.iload 4, 2) := by decide +kernel
theorem dX10_enter_146 : decode cX10_enter 146 = .ok (.putfield 177, 3) := by decide +kernel
theorem dX10_enter_149 : decode cX10_enter 149 = .ok (.return_, 1) := by decide +kernel
set_option maxRecDepth 20000 in
theorem ggX10_score_X10_scoreOf : GoodIn wsX10_score wsX10_scoreOf := goodIn_r _ [6, 7, 8, 9, 10, 11, 12, 13, 5, 14, 15, 16, 17, 18, 19, 20, 21, 22, 23, 24, 25, 26, 27, 28, 29, 30, 31, 32, 33, 34, 35, 36, 37, 38, 39, 40, 41, 42, 43, 44, 45, 46, 47, 48, 49, 50, 51, 52, 53, 54, 55, 56, 57, 58, 59, 60, 68, 69, 70, 71, 72, 73, 74, 75, 76, 77, 78, 79, 80, 81, 82, 83, 84, 85, 86, 87, 88, 89, 90, 91, 92, 93, 94, 95, 96, 97, 98, 99] (by decide +kernel) (by decide +kernel)
set_option maxRecDepth 20000 in
theorem gX10_score_X10_scoreOf : GoodIn wsX10_score (wsV RX10 183 RX10 yX10_scoreOf wsX10_scoreOf) := goodIn_app (goodIn_of _ (by decide +kernel)) ggX10_score_X10_scoreOf
set_option maxRecDepth 20000 in
theorem ggX10_score_X10_enter : GoodIn wsX10_score wsX10_enter := goodIn_r _ [64, 65, 66, 67, 68, 69, 70, 71, 72, 73, 74, 75, 76, 77, 78, 79, 80, 81, 82, 83, 84, 85, 86, 87, 88, 89, 90, 91, 92, 93, 94, 95, 96, 97, 98, 99] (by decide +kernel) (by decide +kernel)
set_option maxRecDepth 20000 in
theorem gX10_score_X10_enter : GoodIn wsX10_score (wsV RX10 186 RX10 yX10_enter wsX10_enter) := goodIn_app (goodIn_of _ (by decide +kernel)) ggX10_score_X10_enter
theorem dX10_score_0 : decode cX10_score 0 = .ok (.aload_n 0, 1) := by decide +kernel
theorem dX10_score_1 : decode cX10_score 1 = .ok (.dup, 1) := by decide +kernel
theorem dX10_score_2 : decode cX10_score 2 = .ok (.getfield 180, 3) := by decide +kernel
theorem dX10_score_5 : decode cX10_score 5 = .ok (.iconst 1, 1) := by decide +kernel
theorem dX10_score_6 : decode cX10_score 6 = .ok (.iadd, 1) := by decide +kernel
theorem dX10_score_7 : decode cX10_score 7 = .ok (.putfield 180, 3) := by decide +kernel
theorem dX10_score_10 : decode cX10_score 10 = .ok (.aload_n 0, 1) := by decide +kernel
theorem dX10_score_11 : decode cX10_score 11 = .ok (.iload_n 2, 1) := by decide +kernel
theorem dX10_score_12 : decode cX10_score 12 = .ok (.aload_n 0, 1) := by decide +kernel
theorem dX10_score_13 : decode cX10_score 13 = .ok (.iload_n 1, 1) := by decide +kernel
theorem dX10_score_14 : decode cX10_score 14 = .ok (.iload_n 2, 1) := by decide +kernel
theorem dX10_score_15 : decode cX10_score 15 = .ok (.invokevirtual 183, 3) := by decide +kernel
theorem dX10_score_18 : decode cX10_score 18 = .ok (.iload_n 3, 1) := by decide +kernel
theorem dX10_score_19 : decode cX10_score 19 = .ok (.invokevirtual 186, 3) := by decide +kernel
theorem dX10_score_22 : decode cX10_score 22 = .ok (.return_, 1) := by decide +kernel
set_option maxRecDepth 20000 in
theorem ggX10_bound_X10_isIn : GoodIn wsX10_bound wsX10_isIn := goodIn_r _ [6, 7, 8, 9, 10, 11, 12, 5, 13, 14, 1, 15, 16, 40, 41, 42, 43, 44, 45, 46, 47, 48, 49, 50, 51, 52, 53, 54, 55, 56, 57, 58, 59, 60, 61, 62, 63, 64, 65, 66, 67, 68, 69, 70, 71] (by decide +kernel) (by decide +kernel)
set_option maxRecDepth 20000 in
theorem gX10_bound_X10_isIn : GoodIn wsX10_bound (wsV RX10 161 RX10 yX10_isIn wsX10_isIn) := goodIn_app (goodIn_of _ (by decide +kernel)) ggX10_bound_X10_isIn
set_option maxRecDepth 20000 in
theorem ggX10_bound_X10_adds : GoodIn wsX10_bound wsX10_adds := goodIn_r _ [20, 8, 21, 9, 22, 23, 24, 5, 25, 7, 1, 26, 27, 28, 29, 30, 31, 32, 33, 34, 35, 36, 37, 38, 39, 10, 11, 12, 13, 14, 15, 16, 40, 41, 42, 43, 44, 45, 46, 47, 48, 49, 50, 51, 52, 53, 54, 55, 56, 57, 58, 59, 60, 61, 62, 63, 64, 65, 66, 67, 68, 69, 70, 71] (by decide +kernel) (by decide +kernel)
set_option maxRecDepth 20000 in
theorem gX10_bound_X10_adds : GoodIn wsX10_bound (wsV RX10 165 RX10 yX10_adds wsX10_adds) := goodIn_app (goodIn_of _ (by decide +kernel)) ggX10_bound_X10_adds
theorem dX10_bound_0 : decode cX10_bound 0 = .ok (.dconst 0, 1) := by decide +kernel
theorem dX10_bound_1 : decode cX10_bound 1 = .ok (.dstore 4, 2) := by decide +kernel
theorem dX10_bound_3 : decode cX10_bound 3 = .ok (.iconst 4, 1) := by decide +kernel
theorem dX10_bound_4 : decode cX10_bound 4 = .ok (.iload_n 2, 1) := by decide +kernel
theorem dX10_bound_5 : decode cX10_bound 5 = .ok (.imul, 1) := by decide +kernel
theorem dX10_bound_6 : decode cX10_bound 6 = .ok (.istore 6, 2) := by decide +kernel
theorem dX10_bound_8 : decode cX10_bound 8 = .ok (.iload 6, 2) := by decide +kernel
theorem dX10_bound_10 : decode cX10_bound 10 = .ok (.iconst 4, 1) := by decide +kernel
theorem dX10_bound_11 : decode cX10_bound 11 = .ok (.iload_n 2, 1) := by decide +kernel
theorem dX10_bound_12 : decode cX10_bound 12 = .ok (.imul, 1) := by decide +kernel
theorem dX10_bound_13 : decode cX10_bound 13 = .ok (.iconst 4, 1) := by decide +kernel
theorem dX10_bound_14 : decode cX10_bound 14 = .ok (.iadd, 1) := by decide +kernel
theorem dX10_bound_15 : decode cX10_bound 15 = .ok (.if_icmp .ge 60, 3) := by decide +kernel
theorem dX10_bound_18 : decode cX10_bound 18 = .ok (.iload 6, 2) := by decide +kernel
theorem dX10_bound_20 : decode cX10_bound 20 = .ok (.aload_n 0, 1) := by decide +kernel
theorem dX10_bound_21 : decode cX10_bound 21 = .ok (.getfield 86, 3) := by decide +kernel
theorem dX10_bound_24 : decode cX10_bound 24 = .ok (.if_icmp .ge 51, 3) := by decide +kernel
theorem dX10_bound_27 : decode cX10_bound 27 = .ok (.aload_n 0, 1) := by decide +kernel
theorem dX10_bound_28 : decode cX10_bound 28 = .ok (.iload_n 1, 1) := by decide +kernel
theorem dX10_bound_29 : decode cX10_bound 29 = .ok (.iload 6, 2) := by decide +kernel
theorem dX10_bound_31 : decode cX10_bound 31 = .ok (.iload_n 3, 1) := by decide +kernel
theorem dX10_bound_32 : decode cX10_bound 32 = .ok (.invokevirtual 161, 3) := by decide +kernel
theorem dX10_bound_35 : decode cX10_bound 35 = .ok (.ifCond .eq 14, 3) := by decide +kernel
theorem dX10_bound_38 : decode cX10_bound 38 = .ok (.aload_n 0, 1) := by decide +kernel
theorem dX10_bound_39 : decode cX10_bound 39 = .ok (.iload_n 1, 1) := by decide +kernel
theorem dX10_bound_40 : decode cX10_bound 40 = .ok (.iload 6, 2) := by decide +kernel
theorem dX10_bound_42 : decode cX10_bound 42 = .ok (.iload_n 3, 1) := by decide +kernel
theorem dX10_bound_43 : decode cX10_bound 43 = .ok (.invokevirtual 165, 3) := by decide +kernel
theorem dX10_bound_46 : decode cX10_bound 46 = .ok (.goto 4, 3) := by decide +kernel
theorem dX10_bound_49 : decode cX10_bound 49 = .ok (.dconst 0, 1) := by decide +kernel
theorem dX10_bound_50 : decode cX10_bound 50 = .ok (.dstore 7, 2) := by decide +kernel
theorem dX10_bound_52 : decode cX10_bound 52 = .ok (.dload 7, 2) := by decide +kernel
theorem dX10_bound_54 : decode cX10_bound 54 = .ok (.dload 4, 2) := by decide +kernel
theorem dX10_bound_56 : decode cX10_bound 56 = .ok (.dcmp .l, 1) := by decide +kernel
theorem dX10_bound_57 : decode cX10_bound 57 = .ok (.ifCond .le 8, 3) := by decide +kernel
theorem dX10_bound_60 : decode cX10_bound 60 = .ok (.dload 7, 2) := by decide +kernel
theorem dX10_bound_62 : decode cX10_bound 62 = .ok (.goto 5, 3) := by decide +kernel
theorem dX10_bound_65 : decode cX10_bound 65 = .ok (.dload 4, 2) := by decide +kernel
theorem dX10_bound_67 : decode cX10_bound 67 = .ok (.dstore 4, 2) := by decide +kernel
theorem dX10_bound_69 : decode cX10_bound 69 = .ok (.iinc 6 1, 3) := by decide +kernel
theorem dX10_bound_72 : decode cX10_bound 72 = .ok (.goto (-64), 3) := by decide +kernel
theorem dX10_bound_75 : decode cX10_bound 75 = .ok (.dload 4, 2) := by decide +kernel
theorem dX10_bound_77 : decode cX10_bound 77 = .ok (.dreturn, 1) := by decide +kernel
set_option maxRecDepth 20000 in
theorem ggX10_boundOf_X10_termsOf : GoodIn wsX10_boundOf wsX10_termsOf := goodIn_r _ [5, 6, 7, 50, 51, 52, 53, 54, 55, 56, 57, 58, 59, 60, 61, 62, 63, 64, 65, 66, 67, 68, 69, 70, 71, 72, 73, 74, 75, 76, 77, 78, 79, 80, 81] (by decide +kernel) (by decide +kernel)
set_option maxRecDepth 20000 in
theorem gX10_boundOf_X10_termsOf : GoodIn wsX10_boundOf (wsV RX10 158 RX10 yX10_termsOf wsX10_termsOf) := goodIn_app (goodIn_of _ (by decide +kernel)) ggX10_boundOf_X10_termsOf
set_option maxRecDepth 20000 in
theorem ggX10_boundOf_X10_isIn : GoodIn wsX10_boundOf wsX10_isIn := goodIn_r _ [11, 12, 13, 14, 15, 16, 17, 4, 18, 19, 20, 21, 22, 50, 51, 52, 53, 54, 55, 56, 57, 58, 59, 60, 61, 62, 63, 64, 65, 66, 67, 68, 69, 70, 71, 72, 73, 74, 75, 76, 77, 78, 79, 80, 81] (by decide +kernel) (by decide +kernel)
set_option maxRecDepth 20000 in
theorem gX10_boundOf_X10_isIn : GoodIn wsX10_boundOf (wsV RX10 161 RX10 yX10_isIn wsX10_isIn) := goodIn_app (goodIn_of _ (by decide +kernel)) ggX10_boundOf_X10_isIn
set_option maxRecDepth 20000 in
theorem ggX10_boundOf_X10_bound : GoodIn wsX10_boundOf wsX10_bound := goodIn_r _ [26, 20, 8, 9, 10, 4, 11, 12, 13, 14, 15, 16, 17, 18, 19, 21, 22, 27, 28, 29, 30, 31, 32, 33, 34, 35, 36, 37, 38, 39, 40, 41, 42, 43, 44, 45, 46, 47, 48, 49, 50, 51, 52, 53, 54, 55, 56, 57, 58, 59, 60, 61, 62, 63, 64, 65, 66, 67, 68, 69, 70, 71, 72, 73, 74, 75, 76, 77, 78, 79, 80, 81] (by decide +kernel) (by decide +kernel)
set_option maxRecDepth 20000 in
theorem gX10_boundOf_X10_bound : GoodIn wsX10_boundOf (wsV RX10 190 RX10 yX10_bound wsX10_bound) := goodIn_app (goodIn_of _ (by decide +kernel)) ggX10_boundOf_X10_bound
theorem dX10_boundOf_0 : decode cX10_boundOf 0 = .ok (.dconst 0, 1) := by decide +kernel
theorem dX10_boundOf_1 : decode cX10_boundOf 1 = .ok (.dstore 4, 2) := by decide +kernel
theorem dX10_boundOf_3 : decode cX10_boundOf 3 = .ok (.iconst 0, 1) := by decide +kernel
theorem dX10_boundOf_4 : decode cX10_boundOf 4 = .ok (.istore 6, 2) := by decide +kernel
theorem dX10_boundOf_6 : decode cX10_boundOf 6 = .ok (.iload 6, 2) := by decide +kernel
theorem dX10_boundOf_8 : decode cX10_boundOf 8 = .ok (.aload_n 0, 1) := by decide +kernel
theorem dX10_boundOf_9 : decode cX10_boundOf 9 = .ok (.iload_n 1, 1) := by decide +kernel
theorem dX10_boundOf_10 : decode cX10_boundOf 10 = .ok (.invokevirtual 158, 3) := by decide +kernel
theorem dX10_boundOf_13 : decode cX10_boundOf 13 = .ok (.if_icmp .ge 43, 3) := by decide +kernel
theorem dX10_boundOf_16 : decode cX10_boundOf 16 = .ok (.iload_n 3, 1) := by decide +kernel
theorem dX10_boundOf_17 : decode cX10_boundOf 17 = .ok (.iconst (-1), 1) := by decide +kernel
theorem dX10_boundOf_18 : decode cX10_boundOf 18 = .ok (.if_icmp .eq 14, 3) := by decide +kernel
theorem dX10_boundOf_21 : decode cX10_boundOf 21 = .ok (.aload_n 0, 1) := by decide +kernel
theorem dX10_boundOf_22 : decode cX10_boundOf 22 = .ok (.iload_n 1, 1) := by decide +kernel
theorem dX10_boundOf_23 : decode cX10_boundOf 23 = .ok (.iload_n 3, 1) := by decide +kernel
theorem dX10_boundOf_24 : decode cX10_boundOf 24 = .ok (.iload 6, 2) := by decide +kernel
theorem dX10_boundOf_26 : decode cX10_boundOf 26 = .ok (.invokevirtual 161, 3) := by decide +kernel
theorem dX10_boundOf_29 : decode cX10_boundOf 29 = .ok (.ifCond .eq 17, 3) := by decide +kernel
theorem dX10_boundOf_32 : decode cX10_boundOf 32 = .ok (.dload 4, 2) := by decide +kernel
theorem dX10_boundOf_34 : decode cX10_boundOf 34 = .ok (.aload_n 0, 1) := by decide +kernel
theorem dX10_boundOf_35 : decode cX10_boundOf 35 = .ok (.iload_n 1, 1) := by decide +kernel
theorem dX10_boundOf_36 : decode cX10_boundOf 36 = .ok (.iload_n 2, 1) := by decide +kernel
theorem dX10_boundOf_37 : decode cX10_boundOf 37 = .ok (.iload 6, 2) := by decide +kernel
theorem dX10_boundOf_39 : decode cX10_boundOf 39 = .ok (.invokevirtual 190, 3) := by decide +kernel
theorem dX10_boundOf_42 : decode cX10_boundOf 42 = .ok (.dadd, 1) := by decide +kernel
theorem dX10_boundOf_43 : decode cX10_boundOf 43 = .ok (.goto 5, 3) := by decide +kernel
theorem dX10_boundOf_46 : decode cX10_boundOf 46 = .ok (.dload 4, 2) := by decide +kernel
theorem dX10_boundOf_48 : decode cX10_boundOf 48 = .ok (.dstore 4, 2) := by decide +kernel
theorem dX10_boundOf_50 : decode cX10_boundOf 50 = .ok (.iinc 6 1, 3) := by decide +kernel
theorem dX10_boundOf_53 : decode cX10_boundOf 53 = .ok (.goto (-47), 3) := by decide +kernel
theorem dX10_boundOf_56 : decode cX10_boundOf 56 = .ok (.dload 4, 2) := by decide +kernel
theorem dX10_boundOf_58 : decode cX10_boundOf 58 = .ok (.dreturn, 1) := by decide +kernel
theorem dX10_isBeaten_0 : decode cX10_isBeaten 0 = .ok (.aload_n 0, 1) := by decide +kernel
theorem dX10_isBeaten_1 : decode cX10_isBeaten 1 = .ok (.getfield 177, 3) := by decide +kernel
theorem dX10_isBeaten_4 : decode cX10_isBeaten 4 = .ok (.iload_n 3, 1) := by decide +kernel
theorem dX10_isBeaten_5 : decode cX10_isBeaten 5 = .ok (.if_icmp .ne 24, 3) := by decide +kernel
theorem dX10_isBeaten_8 : decode cX10_isBeaten 8 = .ok (.iload_n 3, 1) := by decide +kernel
theorem dX10_isBeaten_9 : decode cX10_isBeaten 9 = .ok (.ifCond .eq 16, 3) := by decide +kernel
theorem dX10_isBeaten_12 : decode cX10_isBeaten 12 = .ok (.dload_n 1, 1) := by decide +kernel
theorem dX10_isBeaten_13 : decode cX10_isBeaten 13 = .ok (.aload_n 0, 1) := by decide +kernel
theorem dX10_isBeaten_14 : decode cX10_isBeaten 14 = .ok (.getfield 58, 3) := by decide +kernel
theorem dX10_isBeaten_17 : decode cX10_isBeaten 17 = .ok (.iload_n 3, 1) := by decide +kernel
theorem dX10_isBeaten_18 : decode cX10_isBeaten 18 = .ok (.iconst 1, 1) := by decide +kernel
theorem dX10_isBeaten_19 : decode cX10_isBeaten 19 = .ok (.isub, 1) := by decide +kernel
theorem dX10_isBeaten_20 : decode cX10_isBeaten 20 = .ok (.daload, 1) := by decide +kernel
theorem dX10_isBeaten_21 : decode cX10_isBeaten 21 = .ok (.dcmp .l, 1) := by decide +kernel
theorem dX10_isBeaten_22 : decode cX10_isBeaten 22 = .ok (.ifCond .gt 7, 3) := by decide +kernel
theorem dX10_isBeaten_25 : decode cX10_isBeaten 25 = .ok (.iconst 1, 1) := by decide +kernel
theorem dX10_isBeaten_26 : decode cX10_isBeaten 26 = .ok (.goto 4, 3) := by decide +kernel
theorem dX10_isBeaten_29 : decode cX10_isBeaten 29 = .ok (.iconst 0, 1) := by decide +kernel
theorem dX10_isBeaten_30 : decode cX10_isBeaten 30 = .ok (.ireturn, 1) := by decide +kernel
set_option maxRecDepth 20000 in
theorem ggX10_prune_X10_boundOf : GoodIn wsX10_prune wsX10_boundOf := goodIn_r _ [8, 9, 10, 11, 7, 12, 13, 14, 15, 16, 17, 18, 19, 20, 21, 22, 23, 24, 25, 26, 1, 27, 28, 29, 30, 31, 32, 33, 34, 35, 36, 37, 38, 39, 40, 41, 42, 43, 44, 45, 46, 47, 48, 49, 50, 51, 52, 53, 54, 55, 90, 91, 92, 93, 94, 95, 96, 97, 98, 99, 100, 101, 102, 103, 104, 105, 106, 107, 108, 109, 110, 111, 112, 113, 114, 115, 116, 117, 118, 119, 120, 121] (by decide +kernel) (by decide +kernel)
set_option maxRecDepth 20000 in
theorem gX10_prune_X10_boundOf : GoodIn wsX10_prune (wsV RX10 193 RX10 yX10_boundOf wsX10_boundOf) := goodIn_app (goodIn_of _ (by decide +kernel)) ggX10_prune_X10_boundOf
set_option maxRecDepth 20000 in
theorem ggX10_prune_X10_isBeaten : GoodIn wsX10_prune wsX10_isBeaten := goodIn_r _ [59, 60, 61, 90, 91, 92, 93, 94, 95, 96, 97, 98, 99, 100, 101, 102, 103, 104, 105, 106, 107, 108, 109, 110, 111, 112, 113, 114, 115, 116, 117, 118, 119, 120, 121] (by decide +kernel) (by decide +kernel)
set_option maxRecDepth 20000 in
theorem gX10_prune_X10_isBeaten : GoodIn wsX10_prune (wsV RX10 196 RX10 yX10_isBeaten wsX10_isBeaten) := goodIn_app (goodIn_of _ (by decide +kernel)) ggX10_prune_X10_isBeaten
set_option maxRecDepth 20000 in
theorem ggX10_prune_X10_matches : GoodIn wsX10_prune wsX10_matches := goodIn_r _ [65, 66, 67, 9, 10, 11, 7, 12, 13, 14, 15, 16, 17, 18, 19, 20, 21, 22, 23, 24, 25, 26, 1, 27, 28, 90, 91, 92, 93, 94, 95, 96, 97, 98, 99, 100, 101, 102, 103, 104, 105, 106, 107, 108, 109, 110, 111, 112, 113, 114, 115, 116, 117, 118, 119, 120, 121] (by decide +kernel) (by decide +kernel)
set_option maxRecDepth 20000 in
theorem gX10_prune_X10_matches : GoodIn wsX10_prune (wsV RX10 203 RX10 yX10_matches wsX10_matches) := goodIn_app (goodIn_of _ (by decide +kernel)) ggX10_prune_X10_matches
set_option maxRecDepth 20000 in
theorem ggX10_prune_X10_score : GoodIn wsX10_prune wsX10_score := goodIn_r _ [71, 72, 73, 74, 75, 7, 76, 67, 77, 78, 66, 9, 10, 11, 12, 13, 14, 15, 16, 17, 18, 19, 20, 21, 22, 23, 24, 25, 26, 1, 27, 28, 33, 34, 35, 36, 37, 38, 39, 40, 41, 42, 43, 44, 45, 46, 47, 48, 49, 50, 51, 52, 53, 54, 55, 79, 80, 81, 82, 83, 84, 85, 86, 87, 88, 60, 61, 89, 90, 91, 92, 93, 94, 95, 96, 97, 98, 99, 100, 101, 102, 103, 104, 105, 106, 107, 108, 109, 110, 111, 112, 113, 114, 115, 116, 117, 118, 119, 120, 121] (by decide +kernel) (by decide +kernel)
set_option maxRecDepth 20000 in
theorem gX10_prune_X10_score : GoodIn wsX10_prune (wsV RX10 209 RX10 yX10_score wsX10_score) := goodIn_app (goodIn_of _ (by decide +kernel)) ggX10_prune_X10_score
theorem dX10_prune_0 : decode cX10_prune 0 = .ok (.iconst 0, 1) := by decide +kernel
theorem dX10_prune_1 : decode cX10_prune 1 = .ok (.istore 5, 2) := by decide +kernel
theorem dX10_prune_3 : decode cX10_prune 3 = .ok (.iconst 4, 1) := by decide +kernel
theorem dX10_prune_4 : decode cX10_prune 4 = .ok (.iload 5, 2) := by decide +kernel
theorem dX10_prune_6 : decode cX10_prune 6 = .ok (.imul, 1) := by decide +kernel
theorem dX10_prune_7 : decode cX10_prune 7 = .ok (.aload_n 0, 1) := by decide +kernel
theorem dX10_prune_8 : decode cX10_prune 8 = .ok (.getfield 86, 3) := by decide +kernel
theorem dX10_prune_11 : decode cX10_prune 11 = .ok (.if_icmp .ge 195, 3) := by decide +kernel
theorem dX10_prune_14 : decode cX10_prune 14 = .ok (.iconst 0, 1) := by decide +kernel
theorem dX10_prune_15 : decode cX10_prune 15 = .ok (.istore 6, 2) := by decide +kernel
theorem dX10_prune_17 : decode cX10_prune 17 = .ok (.iconst 4, 1) := by decide +kernel
theorem dX10_prune_18 : decode cX10_prune 18 = .ok (.iload 5, 2) := by decide +kernel
theorem dX10_prune_20 : decode cX10_prune 20 = .ok (.imul, 1) := by decide +kernel
theorem dX10_prune_21 : decode cX10_prune 21 = .ok (.istore 7, 2) := by decide +kernel
theorem dX10_prune_23 : decode cX10_prune 23 = .ok (.iload 7, 2) := by decide +kernel
theorem dX10_prune_25 : decode cX10_prune 25 = .ok (.iconst 4, 1) := by decide +kernel
theorem dX10_prune_26 : decode cX10_prune 26 = .ok (.iload 5, 2) := by decide +kernel
theorem dX10_prune_28 : decode cX10_prune 28 = .ok (.imul, 1) := by decide +kernel
theorem dX10_prune_29 : decode cX10_prune 29 = .ok (.iconst 4, 1) := by decide +kernel
theorem dX10_prune_30 : decode cX10_prune 30 = .ok (.iadd, 1) := by decide +kernel
theorem dX10_prune_31 : decode cX10_prune 31 = .ok (.if_icmp .ge 38, 3) := by decide +kernel
theorem dX10_prune_34 : decode cX10_prune 34 = .ok (.iload 7, 2) := by decide +kernel
theorem dX10_prune_36 : decode cX10_prune 36 = .ok (.aload_n 0, 1) := by decide +kernel
theorem dX10_prune_37 : decode cX10_prune 37 = .ok (.getfield 86, 3) := by decide +kernel
theorem dX10_prune_40 : decode cX10_prune 40 = .ok (.if_icmp .ge 29, 3) := by decide +kernel
theorem dX10_prune_43 : decode cX10_prune 43 = .ok (.iload 6, 2) := by decide +kernel
theorem dX10_prune_45 : decode cX10_prune 45 = .ok (.ifCond .ne 11, 3) := by decide +kernel
theorem dX10_prune_48 : decode cX10_prune 48 = .ok (.iload 7, 2) := by decide +kernel
theorem dX10_prune_50 : decode cX10_prune 50 = .ok (.iload_n 3, 1) := by decide +kernel
theorem dX10_prune_51 : decode cX10_prune 51 = .ok (.irem, 1) := by decide +kernel
theorem dX10_prune_52 : decode cX10_prune 52 = .ok (.iload_n 2, 1) := by decide +kernel
theorem dX10_prune_53 : decode cX10_prune 53 = .ok (.if_icmp .ne 7, 3) := by decide +kernel
theorem dX10_prune_56 : decode cX10_prune 56 = .ok (.iconst 1, 1) := by decide +kernel
theorem dX10_prune_57 : decode cX10_prune 57 = .ok (.goto 4, 3) := by decide +kernel
theorem dX10_prune_60 : decode cX10_prune 60 = .ok (.iconst 0, 1) := by decide +kernel
theorem dX10_prune_61 : decode cX10_prune 61 = .ok (.istore 6, 2) := by decide +kernel
theorem dX10_prune_63 : decode cX10_prune 63 = .ok (.iinc 7 1, 3) := by decide +kernel
theorem dX10_prune_66 : decode cX10_prune 66 = .ok (.goto (-43), 3) := by decide +kernel
theorem dX10_prune_69 : decode cX10_prune 69 = .ok (.iload 6, 2) := by decide +kernel
theorem dX10_prune_71 : decode cX10_prune 71 = .ok (.ifCond .ne 6, 3) := by decide +kernel
theorem dX10_prune_74 : decode cX10_prune 74 = .ok (.goto 126, 3) := by decide +kernel
theorem dX10_prune_77 : decode cX10_prune 77 = .ok (.aload_n 0, 1) := by decide +kernel
theorem dX10_prune_78 : decode cX10_prune 78 = .ok (.aload_n 0, 1) := by decide +kernel
theorem dX10_prune_79 : decode cX10_prune 79 = .ok (.iload_n 1, 1) := by decide +kernel
theorem dX10_prune_80 : decode cX10_prune 80 = .ok (.iload 5, 2) := by decide +kernel
theorem dX10_prune_82 : decode cX10_prune 82 = .ok (.iconst (-1), 1) := by decide +kernel
theorem dX10_prune_83 : decode cX10_prune 83 = .ok (.invokevirtual 193, 3) := by decide +kernel
theorem dX10_prune_86 : decode cX10_prune 86 = .ok (.iload 4, 2) := by decide +kernel
theorem dX10_prune_88 : decode cX10_prune 88 = .ok (.invokevirtual 196, 3) := by decide +kernel
theorem dX10_prune_91 : decode cX10_prune 91 = .ok (.ifCond .eq 16, 3) := by decide +kernel
theorem dX10_prune_94 : decode cX10_prune 94 = .ok (.aload_n 0, 1) := by decide +kernel
theorem dX10_prune_95 : decode cX10_prune 95 = .ok (.dup, 1) := by decide +kernel
theorem dX10_prune_96 : decode cX10_prune 96 = .ok (.getfield 200, 3) := by decide +kernel
theorem dX10_prune_99 : decode cX10_prune 99 = .ok (.iconst 1, 1) := by decide +kernel
theorem dX10_prune_100 : decode cX10_prune 100 = .ok (.iadd, 1) := by decide +kernel
theorem dX10_prune_101 : decode cX10_prune 101 = .ok (.putfield 200, 3) := by decide +kernel
theorem dX10_prune_104 : decode cX10_prune 104 = .ok (.goto 96, 3) := by decide +kernel
theorem dX10_prune_107 : decode cX10_prune 107 = .ok (.iconst 4, 1) := by decide +kernel
theorem dX10_prune_108 : decode cX10_prune 108 = .ok (.iload 5, 2) := by decide +kernel
theorem dX10_prune_110 : decode cX10_prune 110 = .ok (.imul, 1) := by decide +kernel
theorem dX10_prune_111 : decode cX10_prune 111 = .ok (.istore 7, 2) := by decide +kernel
theorem dX10_prune_113 : decode cX10_prune 113 = .ok (.iload 7, 2) := by decide +kernel
theorem dX10_prune_115 : decode cX10_prune 115 = .ok (.iconst 4, 1) := by decide +kernel
theorem dX10_prune_116 : decode cX10_prune 116 = .ok (.iload 5, 2) := by decide +kernel
theorem dX10_prune_118 : decode cX10_prune 118 = .ok (.imul, 1) := by decide +kernel
theorem dX10_prune_119 : decode cX10_prune 119 = .ok (.iconst 4, 1) := by decide +kernel
theorem dX10_prune_120 : decode cX10_prune 120 = .ok (.iadd, 1) := by decide +kernel
theorem dX10_prune_121 : decode cX10_prune 121 = .ok (.if_icmp .ge 79, 3) := by decide +kernel
theorem dX10_prune_124 : decode cX10_prune 124 = .ok (.iload 7, 2) := by decide +kernel
theorem dX10_prune_126 : decode cX10_prune 126 = .ok (.aload_n 0, 1) := by decide +kernel
theorem dX10_prune_127 : decode cX10_prune 127 = .ok (.getfield 86, 3) := by decide +kernel
theorem dX10_prune_130 : decode cX10_prune 130 = .ok (.if_icmp .ge 70, 3) := by decide +kernel
theorem dX10_prune_133 : decode cX10_prune 133 = .ok (.iload 7, 2) := by decide +kernel
theorem dX10_prune_135 : decode cX10_prune 135 = .ok (.iload_n 3, 1) := by decide +kernel
theorem dX10_prune_136 : decode cX10_prune 136 = .ok (.irem, 1) := by decide +kernel
theorem dX10_prune_137 : decode cX10_prune 137 = .ok (.iload_n 2, 1) := by decide +kernel
theorem dX10_prune_138 : decode cX10_prune 138 = .ok (.if_icmp .ne 56, 3) := by decide +kernel
theorem dX10_prune_141 : decode cX10_prune 141 = .ok (.aload_n 0, 1) := by decide +kernel
theorem dX10_prune_142 : decode cX10_prune 142 = .ok (.iload_n 1, 1) := by decide +kernel
theorem dX10_prune_143 : decode cX10_prune 143 = .ok (.iload 7, 2) := by decide +kernel
theorem dX10_prune_145 : decode cX10_prune 145 = .ok (.invokevirtual 203, 3) := by decide +kernel
theorem dX10_prune_148 : decode cX10_prune 148 = .ok (.ifCond .ne 6, 3) := by decide +kernel
theorem dX10_prune_151 : decode cX10_prune 151 = .ok (.goto 43, 3) := by decide +kernel
theorem dX10_prune_154 : decode cX10_prune 154 = .ok (.aload_n 0, 1) := by decide +kernel
theorem dX10_prune_155 : decode cX10_prune 155 = .ok (.aload_n 0, 1) := by decide +kernel
theorem dX10_prune_156 : decode cX10_prune 156 = .ok (.iload_n 1, 1) := by decide +kernel
theorem dX10_prune_157 : decode cX10_prune 157 = .ok (.iload 5, 2) := by decide +kernel
theorem dX10_prune_159 : decode cX10_prune 159 = .ok (.iload 7, 2) := by decide +kernel
theorem dX10_prune_161 : decode cX10_prune 161 = .ok (.invokevirtual 193, 3) := by decide +kernel
theorem dX10_prune_164 : decode cX10_prune 164 = .ok (.iload 4, 2) := by decide +kernel
theorem dX10_prune_166 : decode cX10_prune 166 = .ok (.invokevirtual 196, 3) := by decide +kernel
theorem dX10_prune_169 : decode cX10_prune 169 = .ok (.ifCond .eq 16, 3) := by decide +kernel
theorem dX10_prune_172 : decode cX10_prune 172 = .ok (.aload_n 0, 1) := by decide +kernel
theorem dX10_prune_173 : decode cX10_prune 173 = .ok (.dup, 1) := by decide +kernel
theorem dX10_prune_174 : decode cX10_prune 174 = .ok (.getfield 206, 3) := by decide +kernel
theorem dX10_prune_177 : decode cX10_prune 177 = .ok (.iconst 1, 1) := by decide +kernel
theorem dX10_prune_178 : decode cX10_prune 178 = .ok (.iadd, 1) := by decide +kernel
theorem dX10_prune_179 : decode cX10_prune 179 = .ok (.putfield 206, 3) := by decide +kernel
theorem dX10_prune_182 : decode cX10_prune 182 = .ok (.goto 12, 3) := by decide +kernel
theorem dX10_prune_185 : decode cX10_prune 185 = .ok (.aload_n 0, 1) := by decide +kernel
theorem dX10_prune_186 : decode cX10_prune 186 = .ok (.iload_n 1, 1) := by decide +kernel
theorem dX10_prune_187 : decode cX10_prune 187 = .ok (.iload 7, 2) := by decide +kernel
theorem dX10_prune_189 : decode cX10_prune 189 = .ok (.iload 4, 2) := by decide +kernel
theorem dX10_prune_191 : decode cX10_prune 191 = .ok (.invokevirtual 209, 3) := by decide +kernel
theorem dX10_prune_194 : decode cX10_prune 194 = .ok (.iinc 7 1, 3) := by decide +kernel
theorem dX10_prune_197 : decode cX10_prune 197 = .ok (.goto (-84), 3) := by decide +kernel
theorem dX10_prune_200 : decode cX10_prune 200 = .ok (.iinc 5 1, 3) := by decide +kernel
theorem dX10_prune_203 : decode cX10_prune 203 = .ok (.goto (-200), 3) := by decide +kernel
theorem dX10_prune_206 : decode cX10_prune 206 = .ok (.return_, 1) := by decide +kernel
set_option maxRecDepth 20000 in
theorem ggX10_nearest_X10_product : GoodIn wsX10_nearest wsX10_product := goodIn_r _ [6] (by decide +kernel) (by decide +kernel)
set_option maxRecDepth 20000 in
theorem gX10_nearest_X10_product : GoodIn wsX10_nearest (va_wsS RX10 169 yX10_product wsX10_product) := goodIn_app (goodIn_of _ (by decide +kernel)) ggX10_nearest_X10_product
theorem dX10_nearest_0 : decode cX10_nearest 0 = .ok (.iconst 0, 1) := by decide +kernel
theorem dX10_nearest_1 : decode cX10_nearest 1 = .ok (.istore_n 3, 1) := by decide +kernel
theorem dX10_nearest_2 : decode cX10_nearest 2 = .ok (.iconst 1, 1) := by decide +kernel
theorem dX10_nearest_3 : decode cX10_nearest 3 = .ok (.istore 4, 2) := by decide +kernel
theorem dX10_nearest_5 : decode cX10_nearest 5 = .ok (.iload 4, 2) := by decide +kernel
theorem dX10_nearest_7 : decode cX10_nearest 7 = .ok (.aload_n 0, 1) := by decide +kernel
theorem dX10_nearest_8 : decode cX10_nearest 8 = .ok (.getfield 104, 3) := by decide +kernel
theorem dX10_nearest_11 : decode cX10_nearest 11 = .ok (.if_icmp .ge 45, 3) := by decide +kernel
theorem dX10_nearest_14 : decode cX10_nearest 14 = .ok (.aload_n 1, 1) := by decide +kernel
theorem dX10_nearest_15 : decode cX10_nearest 15 = .ok (.iload_n 2, 1) := by decide +kernel
theorem dX10_nearest_16 : decode cX10_nearest 16 = .ok (.aload_n 0, 1) := by decide +kernel
theorem dX10_nearest_17 : decode cX10_nearest 17 = .ok (.getfield 23, 3) := by decide +kernel
theorem dX10_nearest_20 : decode cX10_nearest 20 = .ok (.iconst 4, 1) := by decide +kernel
theorem dX10_nearest_21 : decode cX10_nearest 21 = .ok (.iload 4, 2) := by decide +kernel
theorem dX10_nearest_23 : decode cX10_nearest 23 = .ok (.imul, 1) := by decide +kernel
theorem dX10_nearest_24 : decode cX10_nearest 24 = .ok (.invokestatic 169, 3) := by decide +kernel
theorem dX10_nearest_27 : decode cX10_nearest 27 = .ok (.aload_n 1, 1) := by decide +kernel
theorem dX10_nearest_28 : decode cX10_nearest 28 = .ok (.iload_n 2, 1) := by decide +kernel
theorem dX10_nearest_29 : decode cX10_nearest 29 = .ok (.aload_n 0, 1) := by decide +kernel
theorem dX10_nearest_30 : decode cX10_nearest 30 = .ok (.getfield 23, 3) := by decide +kernel
theorem dX10_nearest_33 : decode cX10_nearest 33 = .ok (.iconst 4, 1) := by decide +kernel
theorem dX10_nearest_34 : decode cX10_nearest 34 = .ok (.iload_n 3, 1) := by decide +kernel
theorem dX10_nearest_35 : decode cX10_nearest 35 = .ok (.imul, 1) := by decide +kernel
theorem dX10_nearest_36 : decode cX10_nearest 36 = .ok (.invokestatic 169, 3) := by decide +kernel
theorem dX10_nearest_39 : decode cX10_nearest 39 = .ok (.fcmp .l, 1) := by decide +kernel
theorem dX10_nearest_40 : decode cX10_nearest 40 = .ok (.ifCond .le 8, 3) := by decide +kernel
theorem dX10_nearest_43 : decode cX10_nearest 43 = .ok (.iload 4, 2) := by decide +kernel
theorem dX10_nearest_45 : decode cX10_nearest 45 = .ok (.goto 4, 3) := by decide +kernel
theorem dX10_nearest_48 : decode cX10_nearest 48 = .ok (.iload_n 3, 1) := by decide +kernel
theorem dX10_nearest_49 : decode cX10_nearest 49 = .ok (.istore_n 3, 1) := by decide +kernel
theorem dX10_nearest_50 : decode cX10_nearest 50 = .ok (.iinc 4 1, 3) := by decide +kernel
theorem dX10_nearest_53 : decode cX10_nearest 53 = .ok (.goto (-48), 3) := by decide +kernel
theorem dX10_nearest_56 : decode cX10_nearest 56 = .ok (.iload_n 3, 1) := by decide +kernel
theorem dX10_nearest_57 : decode cX10_nearest 57 = .ok (.ireturn, 1) := by decide +kernel
set_option maxRecDepth 20000 in
theorem ggX10_isCandidate_X10_nearest : GoodIn wsX10_isCandidate wsX10_nearest := goodIn_r _ [9, 10, 11, 12, 13, 8, 14, 15, 16, 17, 18, 19, 20, 21, 22, 23, 24, 25, 26, 27, 28, 29, 30, 31, 32, 33, 34, 35, 36, 37, 38, 39, 40, 41, 42, 43, 44, 45, 46] (by decide +kernel) (by decide +kernel)
set_option maxRecDepth 20000 in
theorem gX10_isCandidate_X10_nearest : GoodIn wsX10_isCandidate (wsV RX10 213 RX10 yX10_nearest wsX10_nearest) := goodIn_app (goodIn_of _ (by decide +kernel)) ggX10_isCandidate_X10_nearest
theorem dX10_isCandidate_0 : decode cX10_isCandidate 0 = .ok (.iconst 0, 1) := by decide +kernel
theorem dX10_isCandidate_1 : decode cX10_isCandidate 1 = .ok (.istore_n 2, 1) := by decide +kernel
theorem dX10_isCandidate_2 : decode cX10_isCandidate 2 = .ok (.iconst 0, 1) := by decide +kernel
theorem dX10_isCandidate_3 : decode cX10_isCandidate 3 = .ok (.istore_n 3, 1) := by decide +kernel
theorem dX10_isCandidate_4 : decode cX10_isCandidate 4 = .ok (.iload_n 3, 1) := by decide +kernel
theorem dX10_isCandidate_5 : decode cX10_isCandidate 5 = .ok (.aload_n 0, 1) := by decide +kernel
theorem dX10_isCandidate_6 : decode cX10_isCandidate 6 = .ok (.getfield 17, 3) := by decide +kernel
theorem dX10_isCandidate_9 : decode cX10_isCandidate 9 = .ok (.iload_n 1, 1) := by decide +kernel
theorem dX10_isCandidate_10 : decode cX10_isCandidate 10 = .ok (.iaload, 1) := by decide +kernel
theorem dX10_isCandidate_11 : decode cX10_isCandidate 11 = .ok (.if_icmp .ge 68, 3) := by decide +kernel
theorem dX10_isCandidate_14 : decode cX10_isCandidate 14 = .ok (.iconst 0, 1) := by decide +kernel
theorem dX10_isCandidate_15 : decode cX10_isCandidate 15 = .ok (.istore 4, 2) := by decide +kernel
theorem dX10_isCandidate_17 : decode cX10_isCandidate 17 = .ok (.iload 4, 2) := by decide +kernel
theorem dX10_isCandidate_19 : decode cX10_isCandidate 19 = .ok (.aload_n 0, 1) := by decide +kernel
theorem dX10_isCandidate_20 : decode cX10_isCandidate 20 = .ok (.getfield 113, 3) := by decide +kernel
theorem dX10_isCandidate_23 : decode cX10_isCandidate 23 = .ok (.if_icmp .ge 50, 3) := by decide +kernel
theorem dX10_isCandidate_26 : decode cX10_isCandidate 26 = .ok (.iload_n 2, 1) := by decide +kernel
theorem dX10_isCandidate_27 : decode cX10_isCandidate 27 = .ok (.ifCond .ne 34, 3) := by decide +kernel
theorem dX10_isCandidate_30 : decode cX10_isCandidate 30 = .ok (.aload_n 0, 1) := by decide +kernel
theorem dX10_isCandidate_31 : decode cX10_isCandidate 31 = .ok (.aload_n 0, 1) := by decide +kernel
theorem dX10_isCandidate_32 : decode cX10_isCandidate 32 = .ok (.getfield 20, 3) := by decide +kernel
theorem dX10_isCandidate_35 : decode cX10_isCandidate 35 = .ok (.bipush 16, 2) := by decide +kernel
theorem dX10_isCandidate_37 : decode cX10_isCandidate 37 = .ok (.iload_n 1, 1) := by decide +kernel
theorem dX10_isCandidate_38 : decode cX10_isCandidate 38 = .ok (.imul, 1) := by decide +kernel
theorem dX10_isCandidate_39 : decode cX10_isCandidate 39 = .ok (.iconst 4, 1) := by decide +kernel
theorem dX10_isCandidate_40 : decode cX10_isCandidate 40 = .ok (.iload_n 3, 1) := by decide +kernel
theorem dX10_isCandidate_41 : decode cX10_isCandidate 41 = .ok (.imul, 1) := by decide +kernel
theorem dX10_isCandidate_42 : decode cX10_isCandidate 42 = .ok (.iadd, 1) := by decide +kernel
theorem dX10_isCandidate_43 : decode cX10_isCandidate 43 = .ok (.invokevirtual 213, 3) := by decide +kernel
theorem dX10_isCandidate_46 : decode cX10_isCandidate 46 = .ok (.aload_n 0, 1) := by decide +kernel
theorem dX10_isCandidate_47 : decode cX10_isCandidate 47 = .ok (.aload_n 0, 1) := by decide +kernel
theorem dX10_isCandidate_48 : decode cX10_isCandidate 48 = .ok (.getfield 35, 3) := by decide +kernel
theorem dX10_isCandidate_51 : decode cX10_isCandidate 51 = .ok (.iconst 4, 1) := by decide +kernel
theorem dX10_isCandidate_52 : decode cX10_isCandidate 52 = .ok (.iload 4, 2) := by decide +kernel
theorem dX10_isCandidate_54 : decode cX10_isCandidate 54 = .ok (.imul, 1) := by decide +kernel
theorem dX10_isCandidate_55 : decode cX10_isCandidate 55 = .ok (.invokevirtual 213, 3) := by decide +kernel
theorem dX10_isCandidate_58 : decode cX10_isCandidate 58 = .ok (.if_icmp .ne 7, 3) := by decide +kernel
theorem dX10_isCandidate_61 : decode cX10_isCandidate 61 = .ok (.iconst 1, 1) := by decide +kernel
theorem dX10_isCandidate_62 : decode cX10_isCandidate 62 = .ok (.goto 4, 3) := by decide +kernel
theorem dX10_isCandidate_65 : decode cX10_isCandidate 65 = .ok (.iconst 0, 1) := by decide +kernel
theorem dX10_isCandidate_66 : decode cX10_isCandidate 66 = .ok (.istore_n 2, 1) := by decide +kernel
theorem dX10_isCandidate_67 : decode cX10_isCandidate 67 = .ok (.iinc 4 1, 3) := by decide +kernel
theorem dX10_isCandidate_70 : decode cX10_isCandidate 70 = .ok (.goto (-53), 3) := by decide +kernel
theorem dX10_isCandidate_73 : decode cX10_isCandidate 73 = .ok (.iinc 3 1, 3) := by decide +kernel
theorem dX10_isCandidate_76 : decode cX10_isCandidate 76 = .ok (.goto (-72), 3) := by decide +kernel
theorem dX10_isCandidate_79 : decode cX10_isCandidate 79 = .ok (.iload_n 2, 1) := by decide +kernel
theorem dX10_isCandidate_80 : decode cX10_isCandidate 80 = .ok (.ireturn, 1) := by decide +kernel
set_option maxRecDepth 20000 in
theorem ggX10_search_X10_outside : GoodIn wsX10_search wsX10_outside := goodIn_r _ [22] (by decide +kernel) (by decide +kernel)
set_option maxRecDepth 20000 in
theorem gX10_search_X10_outside : GoodIn wsX10_search (va_wsS RX10 92 yX10_outside wsX10_outside) := goodIn_app (goodIn_of _ (by decide +kernel)) ggX10_search_X10_outside
set_option maxRecDepth 20000 in
theorem ggX10_search_X10_fail : GoodIn wsX10_search wsX10_fail := goodIn_r _ [26, 1, 121, 122, 123, 124, 125, 126, 127, 128, 129, 130, 131, 132, 133, 134, 135, 136, 137, 138, 139, 140, 141, 142, 143, 144, 145, 146, 147, 148, 149, 150, 151, 152] (by decide +kernel) (by decide +kernel)
set_option maxRecDepth 20000 in
theorem gX10_search_X10_fail : GoodIn wsX10_search (wsV RX10 217 RX10 yX10_fail wsX10_fail) := goodIn_app (goodIn_of _ (by decide +kernel)) ggX10_search_X10_fail
set_option maxRecDepth 20000 in
theorem ggX10_search_X10_prune : GoodIn wsX10_search wsX10_prune := goodIn_r _ [30, 8, 4, 5, 31, 32, 33, 21, 34, 35, 36, 37, 38, 39, 40, 41, 42, 43, 44, 45, 46, 47, 48, 49, 50, 51, 52, 53, 54, 55, 56, 57, 58, 59, 60, 61, 62, 63, 64, 65, 66, 67, 68, 69, 70, 71, 72, 73, 74, 75, 76, 77, 78, 79, 80, 81, 82, 83, 84, 85, 7, 12, 86, 87, 88, 89, 90, 91, 92, 93, 94, 95, 3, 96, 97, 98, 99, 100, 101, 102, 103, 104, 105, 106, 107, 108, 109, 110, 111, 10, 121, 122, 123, 124, 125, 126, 127, 128, 129, 130, 131, 132, 133, 134, 135, 136, 137, 138, 139, 140, 141, 142, 143, 144, 145, 146, 147, 148, 149, 150, 151, 152] (by decide +kernel) (by decide +kernel)
set_option maxRecDepth 20000 in
theorem gX10_search_X10_prune : GoodIn wsX10_search (wsV RX10 223 RX10 yX10_prune wsX10_prune) := goodIn_app (goodIn_of _ (by decide +kernel)) ggX10_search_X10_prune
set_option maxRecDepth 20000 in
theorem ggX10_search_X10_matches : GoodIn wsX10_search wsX10_matches := goodIn_r _ [89, 90, 91, 35, 36, 37, 21, 38, 39, 40, 41, 42, 43, 44, 45, 46, 47, 48, 49, 50, 51, 52, 8, 53, 54, 121, 122, 123, 124, 125, 126, 127, 128, 129, 130, 131, 132, 133, 134, 135, 136, 137, 138, 139, 140, 141, 142, 143, 144, 145, 146, 147, 148, 149, 150, 151, 152] (by decide +kernel) (by decide +kernel)
set_option maxRecDepth 20000 in
theorem gX10_search_X10_matches : GoodIn wsX10_search (wsV RX10 203 RX10 yX10_matches wsX10_matches) := goodIn_app (goodIn_of _ (by decide +kernel)) ggX10_search_X10_matches
set_option maxRecDepth 20000 in
theorem ggX10_search_X10_isCandidate : GoodIn wsX10_search wsX10_isCandidate := goodIn_r _ [115, 90, 91, 101, 100, 116, 117, 118, 21, 119, 2, 120, 102, 103, 104, 121, 122, 123, 124, 125, 126, 127, 128, 129, 130, 131, 132, 133, 134, 135, 136, 137, 138, 139, 140, 141, 142, 143, 144, 145, 146, 147, 148, 149, 150, 151, 152] (by decide +kernel) (by decide +kernel)
set_option maxRecDepth 20000 in
theorem gX10_search_X10_isCandidate : GoodIn wsX10_search (wsV RX10 227 RX10 yX10_isCandidate wsX10_isCandidate) := goodIn_app (goodIn_of _ (by decide +kernel)) ggX10_search_X10_isCandidate
set_option maxRecDepth 20000 in
theorem ggX10_search_X10_score : GoodIn wsX10_search wsX10_score := goodIn_r _ [95, 3, 96, 97, 98, 21, 99, 91, 100, 101, 90, 35, 36, 37, 38, 39, 40, 41, 42, 43, 44, 45, 46, 47, 48, 49, 50, 51, 52, 8, 53, 54, 59, 60, 61, 62, 63, 64, 65, 66, 67, 68, 69, 70, 71, 72, 73, 74, 75, 76, 77, 78, 79, 80, 81, 102, 103, 104, 105, 106, 107, 108, 109, 110, 111, 7, 12, 10, 121, 122, 123, 124, 125, 126, 127, 128, 129, 130, 131, 132, 133, 134, 135, 136, 137, 138, 139, 140, 141, 142, 143, 144, 145, 146, 147, 148, 149, 150, 151, 152] (by decide +kernel) (by decide +kernel)
set_option maxRecDepth 20000 in
theorem gX10_search_X10_score : GoodIn wsX10_search (wsV RX10 209 RX10 yX10_score wsX10_score) := goodIn_app (goodIn_of _ (by decide +kernel)) ggX10_search_X10_score
set_option maxRecDepth 20000 in
theorem ggX10_search_X10_enter : GoodIn wsX10_search wsX10_enter := goodIn_r _ [111, 7, 12, 10, 121, 122, 123, 124, 125, 126, 127, 128, 129, 130, 131, 132, 133, 134, 135, 136, 137, 138, 139, 140, 141, 142, 143, 144, 145, 146, 147, 148, 149, 150, 151, 152] (by decide +kernel) (by decide +kernel)
set_option maxRecDepth 20000 in
theorem gX10_search_X10_enter : GoodIn wsX10_search (wsV RX10 186 RX10 yX10_enter wsX10_enter) := goodIn_app (goodIn_of _ (by decide +kernel)) ggX10_search_X10_enter
theorem dX10_search_0 : decode cX10_search 0 = .ok (.aload_n 0, 1) := by decide +kernel
theorem dX10_search_1 : decode cX10_search 1 = .ok (.iconst 0, 1) := by decide +kernel
theorem dX10_search_2 : decode cX10_search 2 = .ok (.putfield 73, 3) := by decide +kernel
theorem dX10_search_5 : decode cX10_search 5 = .ok (.iload_n 1, 1) := by decide +kernel
theorem dX10_search_6 : decode cX10_search 6 = .ok (.iconst 3, 1) := by decide +kernel
theorem dX10_search_7 : decode cX10_search 7 = .ok (.invokestatic 92, 3) := by decide +kernel
theorem dX10_search_10 : decode cX10_search 10 = .ok (.ifCond .ne 43, 3) := by decide +kernel
theorem dX10_search_13 : decode cX10_search 13 = .ok (.iload_n 2, 1) := by decide +kernel
theorem dX10_search_14 : decode cX10_search 14 = .ok (.ifCond .eq 17, 3) := by decide +kernel
theorem dX10_search_17 : decode cX10_search 17 = .ok (.iload_n 2, 1) := by decide +kernel
theorem dX10_search_18 : decode cX10_search 18 = .ok (.iload_n 1, 1) := by decide +kernel
theorem dX10_search_19 : decode cX10_search 19 = .ok (.iconst 2, 1) := by decide +kernel
theorem dX10_search_20 : decode cX10_search 20 = .ok (.if_icmp .ne 7, 3) := by decide +kernel
theorem dX10_search_23 : decode cX10_search 23 = .ok (.iconst 2, 1) := by decide +kernel
theorem dX10_search_24 : decode cX10_search 24 = .ok (.goto 4, 3) := by decide +kernel
theorem dX10_search_27 : decode cX10_search 27 = .ok (.iconst 1, 1) := by decide +kernel
theorem dX10_search_28 : decode cX10_search 28 = .ok (.if_icmp .ne 25, 3) := by decide +kernel
theorem dX10_search_31 : decode cX10_search 31 = .ok (.iload_n 3, 1) := by decide +kernel
theorem dX10_search_32 : decode cX10_search 32 = .ok (.ifCond .lt 21, 3) := by decide +kernel
theorem dX10_search_35 : decode cX10_search 35 = .ok (.iload_n 3, 1) := by decide +kernel
theorem dX10_search_36 : decode cX10_search 36 = .ok (.bipush 20, 2) := by decide +kernel
theorem dX10_search_38 : decode cX10_search 38 = .ok (.if_icmp .gt 15, 3) := by decide +kernel
theorem dX10_search_41 : decode cX10_search 41 = .ok (.iload 4, 2) := by decide +kernel
theorem dX10_search_43 : decode cX10_search 43 = .ok (.iconst 1, 1) := by decide +kernel
theorem dX10_search_44 : decode cX10_search 44 = .ok (.if_icmp .lt 9, 3) := by decide +kernel
theorem dX10_search_47 : decode cX10_search 47 = .ok (.iload 4, 2) := by decide +kernel
theorem dX10_search_49 : decode cX10_search 49 = .ok (.iconst 3, 1) := by decide +kernel
theorem dX10_search_50 : decode cX10_search 50 = .ok (.if_icmp .le 9, 3) := by decide +kernel
theorem dX10_search_53 : decode cX10_search 53 = .ok (.aload_n 0, 1) := by decide +kernel
theorem dX10_search_54 : decode cX10_search 54 = .ok (.iconst 1, 1) := by decide +kernel
theorem dX10_search_55 : decode cX10_search 55 = .ok (.invokevirtual 217, 3) := by decide +kernel
theorem dX10_search_58 : decode cX10_search 58 = .ok (.ireturn, 1) := by decide +kernel
theorem dX10_search_59 : decode cX10_search 59 = .ok (.iload_n 2, 1) := by decide +kernel
theorem dX10_search_60 : decode cX10_search 60 = .ok (.iconst 2, 1) := by decide +kernel
theorem dX10_search_61 : decode cX10_search 61 = .ok (.if_icmp .ne 16, 3) := by decide +kernel
theorem dX10_search_64 : decode cX10_search 64 = .ok (.aload_n 0, 1) := by decide +kernel
theorem dX10_search_65 : decode cX10_search 65 = .ok (.getfield 104, 3) := by decide +kernel
theorem dX10_search_68 : decode cX10_search 68 = .ok (.ifCond .ne 9, 3) := by decide +kernel
theorem dX10_search_71 : decode cX10_search 71 = .ok (.aload_n 0, 1) := by decide +kernel
theorem dX10_search_72 : decode cX10_search 72 = .ok (.iconst 2, 1) := by decide +kernel
theorem dX10_search_73 : decode cX10_search 73 = .ok (.invokevirtual 217, 3) := by decide +kernel
theorem dX10_search_76 : decode cX10_search 76 = .ok (.ireturn, 1) := by decide +kernel
theorem dX10_search_77 : decode cX10_search 77 = .ok (.aload_n 0, 1) := by decide +kernel
theorem dX10_search_78 : decode cX10_search 78 = .ok (.iconst 0, 1) := by decide +kernel
theorem dX10_search_79 : decode cX10_search 79 = .ok (.putfield 180, 3) := by decide +kernel
theorem dX10_search_82 : decode cX10_search 82 = .ok (.aload_n 0, 1) := by decide +kernel
theorem dX10_search_83 : decode cX10_search 83 = .ok (.iconst 0, 1) := by decide +kernel
theorem dX10_search_84 : decode cX10_search 84 = .ok (.putfield 200, 3) := by decide +kernel
theorem dX10_search_87 : decode cX10_search 87 = .ok (.aload_n 0, 1) := by decide +kernel
theorem dX10_search_88 : decode cX10_search 88 = .ok (.iconst 0, 1) := by decide +kernel
theorem dX10_search_89 : decode cX10_search 89 = .ok (.putfield 206, 3) := by decide +kernel
theorem dX10_search_92 : decode cX10_search 92 = .ok (.aload_n 0, 1) := by decide +kernel
theorem dX10_search_93 : decode cX10_search 93 = .ok (.iconst 0, 1) := by decide +kernel
theorem dX10_search_94 : decode cX10_search 94 = .ok (.putfield 220, 3) := by decide +kernel
theorem dX10_search_97 : decode cX10_search 97 = .ok (.iconst 0, 1) := by decide +kernel
theorem dX10_search_98 : decode cX10_search 98 = .ok (.istore 5, 2) := by decide +kernel
theorem dX10_search_100 : decode cX10_search 100 = .ok (.iload 5, 2) := by decide +kernel
theorem dX10_search_102 : decode cX10_search 102 = .ok (.iload 4, 2) := by decide +kernel
theorem dX10_search_104 : decode cX10_search 104 = .ok (.if_icmp .ge 148, 3) := by decide +kernel
theorem dX10_search_107 : decode cX10_search 107 = .ok (.aload_n 0, 1) := by decide +kernel
theorem dX10_search_108 : decode cX10_search 108 = .ok (.iconst 0, 1) := by decide +kernel
theorem dX10_search_109 : decode cX10_search 109 = .ok (.putfield 177, 3) := by decide +kernel
theorem dX10_search_112 : decode cX10_search 112 = .ok (.iload_n 2, 1) := by decide +kernel
theorem dX10_search_113 : decode cX10_search 113 = .ok (.iconst 1, 1) := by decide +kernel
theorem dX10_search_114 : decode cX10_search 114 = .ok (.if_icmp .ne 13, 3) := by decide +kernel
theorem dX10_search_117 : decode cX10_search 117 = .ok (.aload_n 0, 1) := by decide +kernel
theorem dX10_search_118 : decode cX10_search 118 = .ok (.iload_n 1, 1) := by decide +kernel
theorem dX10_search_119 : decode cX10_search 119 = .ok (.iload 5, 2) := by decide +kernel
theorem dX10_search_121 : decode cX10_search 121 = .ok (.iload 4, 2) := by decide +kernel
theorem dX10_search_123 : decode cX10_search 123 = .ok (.iload_n 3, 1) := by decide +kernel
theorem dX10_search_124 : decode cX10_search 124 = .ok (.invokevirtual 223, 3) := by decide +kernel
theorem dX10_search_127 : decode cX10_search 127 = .ok (.iload 5, 2) := by decide +kernel
theorem dX10_search_129 : decode cX10_search 129 = .ok (.istore 6, 2) := by decide +kernel
theorem dX10_search_131 : decode cX10_search 131 = .ok (.iload 6, 2) := by decide +kernel
theorem dX10_search_133 : decode cX10_search 133 = .ok (.aload_n 0, 1) := by decide +kernel
theorem dX10_search_134 : decode cX10_search 134 = .ok (.getfield 86, 3) := by decide +kernel
theorem dX10_search_137 : decode cX10_search 137 = .ok (.if_icmp .ge 49, 3) := by decide +kernel
theorem dX10_search_140 : decode cX10_search 140 = .ok (.iload_n 2, 1) := by decide +kernel
theorem dX10_search_141 : decode cX10_search 141 = .ok (.iconst 1, 1) := by decide +kernel
theorem dX10_search_142 : decode cX10_search 142 = .ok (.if_icmp .eq 44, 3) := by decide +kernel
theorem dX10_search_145 : decode cX10_search 145 = .ok (.aload_n 0, 1) := by decide +kernel
theorem dX10_search_146 : decode cX10_search 146 = .ok (.iload_n 1, 1) := by decide +kernel
theorem dX10_search_147 : decode cX10_search 147 = .ok (.iload 6, 2) := by decide +kernel
theorem dX10_search_149 : decode cX10_search 149 = .ok (.invokevirtual 203, 3) := by decide +kernel
theorem dX10_search_152 : decode cX10_search 152 = .ok (.ifCond .eq 24, 3) := by decide +kernel
theorem dX10_search_155 : decode cX10_search 155 = .ok (.iload_n 2, 1) := by decide +kernel
theorem dX10_search_156 : decode cX10_search 156 = .ok (.ifCond .eq 12, 3) := by decide +kernel
theorem dX10_search_159 : decode cX10_search 159 = .ok (.aload_n 0, 1) := by decide +kernel
theorem dX10_search_160 : decode cX10_search 160 = .ok (.iload 6, 2) := by decide +kernel
theorem dX10_search_162 : decode cX10_search 162 = .ok (.invokevirtual 227, 3) := by decide +kernel
theorem dX10_search_165 : decode cX10_search 165 = .ok (.ifCond .eq 11, 3) := by decide +kernel
theorem dX10_search_168 : decode cX10_search 168 = .ok (.aload_n 0, 1) := by decide +kernel
theorem dX10_search_169 : decode cX10_search 169 = .ok (.iload_n 1, 1) := by decide +kernel
theorem dX10_search_170 : decode cX10_search 170 = .ok (.iload 6, 2) := by decide +kernel
theorem dX10_search_172 : decode cX10_search 172 = .ok (.iload_n 3, 1) := by decide +kernel
theorem dX10_search_173 : decode cX10_search 173 = .ok (.invokevirtual 209, 3) := by decide +kernel
theorem dX10_search_176 : decode cX10_search 176 = .ok (.iload 6, 2) := by decide +kernel
theorem dX10_search_178 : decode cX10_search 178 = .ok (.iload 4, 2) := by decide +kernel
theorem dX10_search_180 : decode cX10_search 180 = .ok (.iadd, 1) := by decide +kernel
theorem dX10_search_181 : decode cX10_search 181 = .ok (.istore 6, 2) := by decide +kernel
theorem dX10_search_183 : decode cX10_search 183 = .ok (.goto (-52), 3) := by decide +kernel
theorem dX10_search_186 : decode cX10_search 186 = .ok (.iconst 0, 1) := by decide +kernel
theorem dX10_search_187 : decode cX10_search 187 = .ok (.istore 6, 2) := by decide +kernel
theorem dX10_search_189 : decode cX10_search 189 = .ok (.iload 6, 2) := by decide +kernel
theorem dX10_search_191 : decode cX10_search 191 = .ok (.aload_n 0, 1) := by decide +kernel
theorem dX10_search_192 : decode cX10_search 192 = .ok (.getfield 177, 3) := by decide +kernel
theorem dX10_search_195 : decode cX10_search 195 = .ok (.if_icmp .ge 51, 3) := by decide +kernel
theorem dX10_search_198 : decode cX10_search 198 = .ok (.aload_n 0, 1) := by decide +kernel
theorem dX10_search_199 : decode cX10_search 199 = .ok (.getfield 61, 3) := by decide +kernel
theorem dX10_search_202 : decode cX10_search 202 = .ok (.aload_n 0, 1) := by decide +kernel
theorem dX10_search_203 : decode cX10_search 203 = .ok (.getfield 220, 3) := by decide +kernel
theorem dX10_search_206 : decode cX10_search 206 = .ok (.aload_n 0, 1) := by decide +kernel
theorem dX10_search_207 : decode cX10_search 207 = .ok (.getfield 55, 3) := by decide +kernel
theorem dX10_search_210 : decode cX10_search 210 = .ok (.iload 6, 2) := by decide +kernel
theorem dX10_search_212 : decode cX10_search 212 = .ok (.iaload, 1) := by decide +kernel
theorem dX10_search_213 : decode cX10_search 213 = .ok (.iastore, 1) := by decide +kernel
theorem dX10_search_214 : decode cX10_search 214 = .ok (.aload_n 0, 1) := by decide +kernel
theorem dX10_search_215 : decode cX10_search 215 = .ok (.getfield 64, 3) := by decide +kernel
theorem dX10_search_218 : decode cX10_search 218 = .ok (.aload_n 0, 1) := by decide +kernel
theorem dX10_search_219 : decode cX10_search 219 = .ok (.getfield 220, 3) := by decide +kernel
theorem dX10_search_222 : decode cX10_search 222 = .ok (.aload_n 0, 1) := by decide +kernel
theorem dX10_search_223 : decode cX10_search 223 = .ok (.getfield 58, 3) := by decide +kernel
theorem dX10_search_226 : decode cX10_search 226 = .ok (.iload 6, 2) := by decide +kernel
theorem dX10_search_228 : decode cX10_search 228 = .ok (.daload, 1) := by decide +kernel
theorem dX10_search_229 : decode cX10_search 229 = .ok (.dastore, 1) := by decide +kernel
theorem dX10_search_230 : decode cX10_search 230 = .ok (.aload_n 0, 1) := by decide +kernel
theorem dX10_search_231 : decode cX10_search 231 = .ok (.dup, 1) := by decide +kernel
theorem dX10_search_232 : decode cX10_search 232 = .ok (.getfield 220, 3) := by decide +kernel
theorem dX10_search_235 : decode cX10_search 235 = .ok (.iconst 1, 1) := by decide +kernel
theorem dX10_search_236 : decode cX10_search 236 = .ok (.iadd, 1) := by decide +kernel
theorem dX10_search_237 : decode cX10_search 237 = .ok (.putfield 220, 3) := by decide +kernel
theorem dX10_search_240 : decode cX10_search 240 = .ok (.iinc 6 1, 3) := by decide +kernel
theorem dX10_search_243 : decode cX10_search 243 = .ok (.goto (-54), 3) := by decide +kernel
theorem dX10_search_246 : decode cX10_search 246 = .ok (.iinc 5 1, 3) := by decide +kernel
theorem dX10_search_249 : decode cX10_search 249 = .ok (.goto (-149), 3) := by decide +kernel
theorem dX10_search_252 : decode cX10_search 252 = .ok (.aload_n 0, 1) := by decide +kernel
theorem dX10_search_253 : decode cX10_search 253 = .ok (.iconst 0, 1) := by decide +kernel
theorem dX10_search_254 : decode cX10_search 254 = .ok (.putfield 177, 3) := by decide +kernel
theorem dX10_search_257 : decode cX10_search 257 = .ok (.iconst 0, 1) := by decide +kernel
theorem dX10_search_258 : decode cX10_search 258 = .ok (.istore 5, 2) := by decide +kernel
theorem dX10_search_260 : decode cX10_search 260 = .ok (.iload 5, 2) := by decide +kernel
theorem dX10_search_262 : decode cX10_search 262 = .ok (.aload_n 0, 1) := by decide +kernel
theorem dX10_search_263 : decode cX10_search 263 = .ok (.getfield 220, 3) := by decide +kernel
theorem dX10_search_266 : decode cX10_search 266 = .ok (.if_icmp .ge 28, 3) := by decide +kernel
theorem dX10_search_269 : decode cX10_search 269 = .ok (.aload_n 0, 1) := by decide +kernel
theorem dX10_search_270 : decode cX10_search 270 = .ok (.aload_n 0, 1) := by decide +kernel
theorem dX10_search_271 : decode cX10_search 271 = .ok (.getfield 61, 3) := by decide +kernel
theorem dX10_search_274 : decode cX10_search 274 = .ok (.iload 5, 2) := by decide +kernel
theorem dX10_search_276 : decode cX10_search 276 = .ok (.iaload, 1) := by decide +kernel
theorem dX10_search_277 : decode cX10_search 277 = .ok (.aload_n 0, 1) := by decide +kernel
theorem dX10_search_278 : decode cX10_search 278 = .ok (.getfield 64, 3) := by decide +kernel
theorem dX10_search_281 : decode cX10_search 281 = .ok (.iload 5, 2) := by decide +kernel
theorem dX10_search_283 : decode cX10_search 283 = .ok (.daload, 1) := by decide +kernel
theorem dX10_search_284 : decode cX10_search 284 = .ok (.iload_n 3, 1) := by decide +kernel
theorem dX10_search_285 : decode cX10_search 285 = .ok (.invokevirtual 186, 3) := by decide +kernel
theorem dX10_search_288 : decode cX10_search 288 = .ok (.iinc 5 1, 3) := by decide +kernel
theorem dX10_search_291 : decode cX10_search 291 = .ok (.goto (-31), 3) := by decide +kernel
theorem dX10_search_294 : decode cX10_search 294 = .ok (.aload_n 0, 1) := by decide +kernel
theorem dX10_search_295 : decode cX10_search 295 = .ok (.iconst 0, 1) := by decide +kernel
theorem dX10_search_296 : decode cX10_search 296 = .ok (.putfield 79, 3) := by decide +kernel
theorem dX10_search_299 : decode cX10_search 299 = .ok (.aload_n 0, 1) := by decide +kernel
theorem dX10_search_300 : decode cX10_search 300 = .ok (.getfield 38, 3) := by decide +kernel
theorem dX10_search_303 : decode cX10_search 303 = .ok (.iload_n 1, 1) := by decide +kernel
theorem dX10_search_304 : decode cX10_search 304 = .ok (.iconst 1, 1) := by decide +kernel
theorem dX10_search_305 : decode cX10_search 305 = .ok (.bastore, 1) := by decide +kernel
theorem dX10_search_306 : decode cX10_search 306 = .ok (.aload_n 0, 1) := by decide +kernel
theorem dX10_search_307 : decode cX10_search 307 = .ok (.getfield 42, 3) := by decide +kernel
theorem dX10_search_310 : decode cX10_search 310 = .ok (.iload_n 1, 1) := by decide +kernel
theorem dX10_search_311 : decode cX10_search 311 = .ok (.aload_n 0, 1) := by decide +kernel
theorem dX10_search_312 : decode cX10_search 312 = .ok (.getfield 177, 3) := by decide +kernel
theorem dX10_search_315 : decode cX10_search 315 = .ok (.iastore, 1) := by decide +kernel
theorem dX10_search_316 : decode cX10_search 316 = .ok (.iconst 0, 1) := by decide +kernel
theorem dX10_search_317 : decode cX10_search 317 = .ok (.istore 5, 2) := by decide +kernel
theorem dX10_search_319 : decode cX10_search 319 = .ok (.iload 5, 2) := by decide +kernel
theorem dX10_search_321 : decode cX10_search 321 = .ok (.aload_n 0, 1) := by decide +kernel
theorem dX10_search_322 : decode cX10_search 322 = .ok (.getfield 177, 3) := by decide +kernel
theorem dX10_search_325 : decode cX10_search 325 = .ok (.if_icmp .ge 47, 3) := by decide +kernel
theorem dX10_search_328 : decode cX10_search 328 = .ok (.aload_n 0, 1) := by decide +kernel
theorem dX10_search_329 : decode cX10_search 329 = .ok (.getfield 45, 3) := by decide +kernel
theorem dX10_search_332 : decode cX10_search 332 = .ok (.bipush 20, 2) := by decide +kernel
theorem dX10_search_334 : decode cX10_search 334 = .ok (.iload_n 1, 1) := by decide +kernel
theorem dX10_search_335 : decode cX10_search 335 = .ok (.imul, 1) := by decide +kernel
theorem dX10_search_336 : decode cX10_search 336 = .ok (.iload 5, 2) := by decide +kernel
theorem dX10_search_338 : decode cX10_search 338 = .ok (.iadd, 1) := by decide +kernel
theorem dX10_search_339 : decode cX10_search 339 = .ok (.aload_n 0, 1) := by decide +kernel
theorem dX10_search_340 : decode cX10_search 340 = .ok (.getfield 55, 3) := by decide +kernel
theorem dX10_search_343 : decode cX10_search 343 = .ok (.iload 5, 2) := by decide +kernel
theorem dX10_search_345 : decode cX10_search 345 = .ok (.iaload, 1) := by decide +kernel
theorem dX10_search_346 : decode cX10_search 346 = .ok (.iastore, 1) := by decide +kernel
theorem dX10_search_347 : decode cX10_search 347 = .ok (.aload_n 0, 1) := by decide +kernel
theorem dX10_search_348 : decode cX10_search 348 = .ok (.getfield 48, 3) := by decide +kernel
theorem dX10_search_351 : decode cX10_search 351 = .ok (.bipush 20, 2) := by decide +kernel
theorem dX10_search_353 : decode cX10_search 353 = .ok (.iload_n 1, 1) := by decide +kernel
theorem dX10_search_354 : decode cX10_search 354 = .ok (.imul, 1) := by decide +kernel
theorem dX10_search_355 : decode cX10_search 355 = .ok (.iload 5, 2) := by decide +kernel
theorem dX10_search_357 : decode cX10_search 357 = .ok (.iadd, 1) := by decide +kernel
theorem dX10_search_358 : decode cX10_search 358 = .ok (.aload_n 0, 1) := by decide +kernel
theorem dX10_search_359 : decode cX10_search 359 = .ok (.getfield 58, 3) := by decide +kernel
theorem dX10_search_362 : decode cX10_search 362 = .ok (.iload 5, 2) := by decide +kernel
theorem dX10_search_364 : decode cX10_search 364 = .ok (.daload, 1) := by decide +kernel
theorem dX10_search_365 : decode cX10_search 365 = .ok (.dastore, 1) := by decide +kernel
theorem dX10_search_366 : decode cX10_search 366 = .ok (.iinc 5 1, 3) := by decide +kernel
theorem dX10_search_369 : decode cX10_search 369 = .ok (.goto (-50), 3) := by decide +kernel
theorem dX10_search_372 : decode cX10_search 372 = .ok (.aload_n 0, 1) := by decide +kernel
theorem dX10_search_373 : decode cX10_search 373 = .ok (.getfield 52, 3) := by decide +kernel
theorem dX10_search_376 : decode cX10_search 376 = .ok (.iconst 3, 1) := by decide +kernel
theorem dX10_search_377 : decode cX10_search 377 = .ok (.iload_n 1, 1) := by decide +kernel
theorem dX10_search_378 : decode cX10_search 378 = .ok (.imul, 1) := by decide +kernel
theorem dX10_search_379 : decode cX10_search 379 = .ok (.aload_n 0, 1) := by decide +kernel
theorem dX10_search_380 : decode cX10_search 380 = .ok (.getfield 180, 3) := by decide +kernel
theorem dX10_search_383 : decode cX10_search 383 = .ok (.iastore, 1) := by decide +kernel
theorem dX10_search_384 : decode cX10_search 384 = .ok (.aload_n 0, 1) := by decide +kernel
theorem dX10_search_385 : decode cX10_search 385 = .ok (.getfield 52, 3) := by decide +kernel
theorem dX10_search_388 : decode cX10_search 388 = .ok (.iconst 3, 1) := by decide +kernel
theorem dX10_search_389 : decode cX10_search 389 = .ok (.iload_n 1, 1) := by decide +kernel
theorem dX10_search_390 : decode cX10_search 390 = .ok (.imul, 1) := by decide +kernel
theorem dX10_search_391 : decode cX10_search 391 = .ok (.iconst 1, 1) := by decide +kernel
theorem dX10_search_392 : decode cX10_search 392 = .ok (.iadd, 1) := by decide +kernel
theorem dX10_search_393 : decode cX10_search 393 = .ok (.aload_n 0, 1) := by decide +kernel
theorem dX10_search_394 : decode cX10_search 394 = .ok (.getfield 200, 3) := by decide +kernel
theorem dX10_search_397 : decode cX10_search 397 = .ok (.iastore, 1) := by decide +kernel
theorem dX10_search_398 : decode cX10_search 398 = .ok (.aload_n 0, 1) := by decide +kernel
theorem dX10_search_399 : decode cX10_search 399 = .ok (.getfield 52, 3) := by decide +kernel
theorem dX10_search_402 : decode cX10_search 402 = .ok (.iconst 3, 1) := by decide +kernel
theorem dX10_search_403 : decode cX10_search 403 = .ok (.iload_n 1, 1) := by decide +kernel
theorem dX10_search_404 : decode cX10_search 404 = .ok (.imul, 1) := by decide +kernel
theorem dX10_search_405 : decode cX10_search 405 = .ok (.iconst 2, 1) := by decide +kernel
theorem dX10_search_406 : decode cX10_search 406 = .ok (.iadd, 1) := by decide +kernel
theorem dX10_search_407 : decode cX10_search 407 = .ok (.aload_n 0, 1) := by decide +kernel
theorem dX10_search_408 : decode cX10_search 408 = .ok (.getfield 206, 3) := by decide +kernel
theorem dX10_search_411 : decode cX10_search 411 = .ok (.iastore, 1) := by decide +kernel
theorem dX10_search_412 : decode cX10_search 412 = .ok (.aload_n 0, 1) := by decide +kernel
theorem dX10_search_413 : decode cX10_search 413 = .ok (.getfield 177, 3) := by decide +kernel
theorem dX10_search_416 : decode cX10_search 416 = .ok (.ireturn, 1) := by decide +kernel
set_option maxRecDepth 20000 in
theorem ggX10_find_X10_outside : GoodIn wsX10_find wsX10_outside := goodIn_r _ [6] (by decide +kernel) (by decide +kernel)
set_option maxRecDepth 20000 in
theorem gX10_find_X10_outside : GoodIn wsX10_find (va_wsS RX10 92 yX10_outside wsX10_outside) := goodIn_app (goodIn_of _ (by decide +kernel)) ggX10_find_X10_outside
theorem dX10_find_0 : decode cX10_find 0 = .ok (.iload_n 1, 1) := by decide +kernel
theorem dX10_find_1 : decode cX10_find 1 = .ok (.iconst 3, 1) := by decide +kernel
theorem dX10_find_2 : decode cX10_find 2 = .ok (.invokestatic 92, 3) := by decide +kernel
theorem dX10_find_5 : decode cX10_find 5 = .ok (.ifCond .eq 7, 3) := by decide +kernel
theorem dX10_find_8 : decode cX10_find 8 = .ok (.iconst 1, 1) := by decide +kernel
theorem dX10_find_9 : decode cX10_find 9 = .ok (.goto 34, 3) := by decide +kernel
theorem dX10_find_12 : decode cX10_find 12 = .ok (.aload_n 0, 1) := by decide +kernel
theorem dX10_find_13 : decode cX10_find 13 = .ok (.getfield 38, 3) := by decide +kernel
theorem dX10_find_16 : decode cX10_find 16 = .ok (.iload_n 1, 1) := by decide +kernel
theorem dX10_find_17 : decode cX10_find 17 = .ok (.baload, 1) := by decide +kernel
theorem dX10_find_18 : decode cX10_find 18 = .ok (.ifCond .ne 7, 3) := by decide +kernel
theorem dX10_find_21 : decode cX10_find 21 = .ok (.iconst 2, 1) := by decide +kernel
theorem dX10_find_22 : decode cX10_find 22 = .ok (.goto 21, 3) := by decide +kernel
theorem dX10_find_25 : decode cX10_find 25 = .ok (.iload_n 2, 1) := by decide +kernel
theorem dX10_find_26 : decode cX10_find 26 = .ok (.aload_n 0, 1) := by decide +kernel
theorem dX10_find_27 : decode cX10_find 27 = .ok (.getfield 42, 3) := by decide +kernel
theorem dX10_find_30 : decode cX10_find 30 = .ok (.iload_n 1, 1) := by decide +kernel
theorem dX10_find_31 : decode cX10_find 31 = .ok (.iaload, 1) := by decide +kernel
theorem dX10_find_32 : decode cX10_find 32 = .ok (.invokestatic 92, 3) := by decide +kernel
theorem dX10_find_35 : decode cX10_find 35 = .ok (.ifCond .eq 7, 3) := by decide +kernel
theorem dX10_find_38 : decode cX10_find 38 = .ok (.iconst 3, 1) := by decide +kernel
theorem dX10_find_39 : decode cX10_find 39 = .ok (.goto 4, 3) := by decide +kernel
theorem dX10_find_42 : decode cX10_find 42 = .ok (.iconst 0, 1) := by decide +kernel
theorem dX10_find_43 : decode cX10_find 43 = .ok (.ireturn, 1) := by decide +kernel
set_option maxRecDepth 20000 in
theorem ggX10_hit_X10_find : GoodIn wsX10_hit wsX10_find := goodIn_r _ [7, 8, 9, 10, 11, 6, 12, 13, 14, 15, 16, 17, 18, 19, 20, 21, 22, 23, 24, 25, 26, 27, 28, 29, 30, 31, 32, 33, 34, 35, 36, 37, 38, 39, 40, 41, 42, 43, 44] (by decide +kernel) (by decide +kernel)
set_option maxRecDepth 20000 in
theorem gX10_hit_X10_find : GoodIn wsX10_hit (wsV RX10 231 RX10 yX10_find wsX10_find) := goodIn_app (goodIn_of _ (by decide +kernel)) ggX10_hit_X10_find
theorem dX10_hit_0 : decode cX10_hit 0 = .ok (.aload_n 0, 1) := by decide +kernel
theorem dX10_hit_1 : decode cX10_hit 1 = .ok (.aload_n 0, 1) := by decide +kernel
theorem dX10_hit_2 : decode cX10_hit 2 = .ok (.iload_n 1, 1) := by decide +kernel
theorem dX10_hit_3 : decode cX10_hit 3 = .ok (.iload_n 2, 1) := by decide +kernel
theorem dX10_hit_4 : decode cX10_hit 4 = .ok (.invokevirtual 231, 3) := by decide +kernel
theorem dX10_hit_7 : decode cX10_hit 7 = .ok (.putfield 73, 3) := by decide +kernel
theorem dX10_hit_10 : decode cX10_hit 10 = .ok (.aload_n 0, 1) := by decide +kernel
theorem dX10_hit_11 : decode cX10_hit 11 = .ok (.getfield 73, 3) := by decide +kernel
theorem dX10_hit_14 : decode cX10_hit 14 = .ok (.ifCond .le 7, 3) := by decide +kernel
theorem dX10_hit_17 : decode cX10_hit 17 = .ok (.iconst 0, 1) := by decide +kernel
theorem dX10_hit_18 : decode cX10_hit 18 = .ok (.goto 14, 3) := by decide +kernel
theorem dX10_hit_21 : decode cX10_hit 21 = .ok (.aload_n 0, 1) := by decide +kernel
theorem dX10_hit_22 : decode cX10_hit 22 = .ok (.getfield 45, 3) := by decide +kernel
theorem dX10_hit_25 : decode cX10_hit 25 = .ok (.bipush 20, 2) := by decide +kernel
theorem dX10_hit_27 : decode cX10_hit 27 = .ok (.iload_n 1, 1) := by decide +kernel
theorem dX10_hit_28 : decode cX10_hit 28 = .ok (.imul, 1) := by decide +kernel
theorem dX10_hit_29 : decode cX10_hit 29 = .ok (.iload_n 2, 1) := by decide +kernel
theorem dX10_hit_30 : decode cX10_hit 30 = .ok (.iadd, 1) := by decide +kernel
theorem dX10_hit_31 : decode cX10_hit 31 = .ok (.iaload, 1) := by decide +kernel
theorem dX10_hit_32 : decode cX10_hit 32 = .ok (.ireturn, 1) := by decide +kernel
set_option maxRecDepth 20000 in
theorem ggX10_score__X10_find : GoodIn wsX10_score_ wsX10_find := goodIn_r _ [7, 8, 9, 10, 11, 6, 12, 13, 14, 15, 16, 17, 18, 19, 20, 21, 22, 23, 24, 25, 26, 27, 28, 29, 30, 31, 32, 33, 34, 35, 36, 37, 38, 39, 40, 41, 42, 43, 44] (by decide +kernel) (by decide +kernel)
set_option maxRecDepth 20000 in
theorem gX10_score__X10_find : GoodIn wsX10_score_ (wsV RX10 231 RX10 yX10_find wsX10_find) := goodIn_app (goodIn_of _ (by decide +kernel)) ggX10_score__X10_find
theorem dX10_score__0 : decode cX10_score_ 0 = .ok (.aload_n 0, 1) := by decide +kernel
theorem dX10_score__1 : decode cX10_score_ 1 = .ok (.aload_n 0, 1) := by decide +kernel
theorem dX10_score__2 : decode cX10_score_ 2 = .ok (.iload_n 1, 1) := by decide +kernel
theorem dX10_score__3 : decode cX10_score_ 3 = .ok (.iload_n 2, 1) := by decide +kernel
theorem dX10_score__4 : decode cX10_score_ 4 = .ok (.invokevirtual 231, 3) := by decide +kernel
theorem dX10_score__7 : decode cX10_score_ 7 = .ok (.putfield 73, 3) := by decide +kernel
theorem dX10_score__10 : decode cX10_score_ 10 = .ok (.aload_n 0, 1) := by decide +kernel
theorem dX10_score__11 : decode cX10_score_ 11 = .ok (.getfield 73, 3) := by decide +kernel
theorem dX10_score__14 : decode cX10_score_ 14 = .ok (.ifCond .le 7, 3) := by decide +kernel
theorem dX10_score__17 : decode cX10_score_ 17 = .ok (.dconst 0, 1) := by decide +kernel
theorem dX10_score__18 : decode cX10_score_ 18 = .ok (.goto 14, 3) := by decide +kernel
theorem dX10_score__21 : decode cX10_score_ 21 = .ok (.aload_n 0, 1) := by decide +kernel
theorem dX10_score__22 : decode cX10_score_ 22 = .ok (.getfield 48, 3) := by decide +kernel
theorem dX10_score__25 : decode cX10_score_ 25 = .ok (.bipush 20, 2) := by decide +kernel
theorem dX10_score__27 : decode cX10_score_ 27 = .ok (.iload_n 1, 1) := by decide +kernel
theorem dX10_score__28 : decode cX10_score_ 28 = .ok (.imul, 1) := by decide +kernel
theorem dX10_score__29 : decode cX10_score_ 29 = .ok (.iload_n 2, 1) := by decide +kernel
theorem dX10_score__30 : decode cX10_score_ 30 = .ok (.iadd, 1) := by decide +kernel
theorem dX10_score__31 : decode cX10_score_ 31 = .ok (.daload, 1) := by decide +kernel
theorem dX10_score__32 : decode cX10_score_ 32 = .ok (.dreturn, 1) := by decide +kernel
set_option maxRecDepth 20000 in
theorem ggX10_work_X10_outside : GoodIn wsX10_work wsX10_outside := goodIn_r _ [7] (by decide +kernel) (by decide +kernel)
set_option maxRecDepth 20000 in
theorem gX10_work_X10_outside : GoodIn wsX10_work (va_wsS RX10 92 yX10_outside wsX10_outside) := goodIn_app (goodIn_of _ (by decide +kernel)) ggX10_work_X10_outside
theorem dX10_work_0 : decode cX10_work 0 = .ok (.aload_n 0, 1) := by decide +kernel
theorem dX10_work_1 : decode cX10_work 1 = .ok (.iload_n 1, 1) := by decide +kernel
theorem dX10_work_2 : decode cX10_work 2 = .ok (.iconst 3, 1) := by decide +kernel
theorem dX10_work_3 : decode cX10_work 3 = .ok (.invokestatic 92, 3) := by decide +kernel
theorem dX10_work_6 : decode cX10_work 6 = .ok (.ifCond .ne 11, 3) := by decide +kernel
theorem dX10_work_9 : decode cX10_work 9 = .ok (.iload_n 2, 1) := by decide +kernel
theorem dX10_work_10 : decode cX10_work 10 = .ok (.iconst 3, 1) := by decide +kernel
theorem dX10_work_11 : decode cX10_work 11 = .ok (.invokestatic 92, 3) := by decide +kernel
theorem dX10_work_14 : decode cX10_work 14 = .ok (.ifCond .eq 7, 3) := by decide +kernel
theorem dX10_work_17 : decode cX10_work 17 = .ok (.iconst 1, 1) := by decide +kernel
theorem dX10_work_18 : decode cX10_work 18 = .ok (.goto 17, 3) := by decide +kernel
theorem dX10_work_21 : decode cX10_work 21 = .ok (.aload_n 0, 1) := by decide +kernel
theorem dX10_work_22 : decode cX10_work 22 = .ok (.getfield 38, 3) := by decide +kernel
theorem dX10_work_25 : decode cX10_work 25 = .ok (.iload_n 1, 1) := by decide +kernel
theorem dX10_work_26 : decode cX10_work 26 = .ok (.baload, 1) := by decide +kernel
theorem dX10_work_27 : decode cX10_work 27 = .ok (.ifCond .ne 7, 3) := by decide +kernel
theorem dX10_work_30 : decode cX10_work 30 = .ok (.iconst 2, 1) := by decide +kernel
theorem dX10_work_31 : decode cX10_work 31 = .ok (.goto 4, 3) := by decide +kernel
theorem dX10_work_34 : decode cX10_work 34 = .ok (.iconst 0, 1) := by decide +kernel
theorem dX10_work_35 : decode cX10_work 35 = .ok (.putfield 73, 3) := by decide +kernel
theorem dX10_work_38 : decode cX10_work 38 = .ok (.aload_n 0, 1) := by decide +kernel
theorem dX10_work_39 : decode cX10_work 39 = .ok (.getfield 73, 3) := by decide +kernel
theorem dX10_work_42 : decode cX10_work 42 = .ok (.ifCond .le 7, 3) := by decide +kernel
theorem dX10_work_45 : decode cX10_work 45 = .ok (.iconst 0, 1) := by decide +kernel
theorem dX10_work_46 : decode cX10_work 46 = .ok (.goto 13, 3) := by decide +kernel
theorem dX10_work_49 : decode cX10_work 49 = .ok (.aload_n 0, 1) := by decide +kernel
theorem dX10_work_50 : decode cX10_work 50 = .ok (.getfield 52, 3) := by decide +kernel
theorem dX10_work_53 : decode cX10_work 53 = .ok (.iconst 3, 1) := by decide +kernel
theorem dX10_work_54 : decode cX10_work 54 = .ok (.iload_n 1, 1) := by decide +kernel
theorem dX10_work_55 : decode cX10_work 55 = .ok (.imul, 1) := by decide +kernel
theorem dX10_work_56 : decode cX10_work 56 = .ok (.iload_n 2, 1) := by decide +kernel
theorem dX10_work_57 : decode cX10_work 57 = .ok (.iadd, 1) := by decide +kernel
theorem dX10_work_58 : decode cX10_work 58 = .ok (.iaload, 1) := by decide +kernel
theorem dX10_work_59 : decode cX10_work 59 = .ok (.ireturn, 1) := by decide +kernel
theorem dX10_rankOf_0 : decode cX10_rankOf 0 = .ok (.iconst (-1), 1) := by decide +kernel
theorem dX10_rankOf_1 : decode cX10_rankOf 1 = .ok (.istore_n 3, 1) := by decide +kernel
theorem dX10_rankOf_2 : decode cX10_rankOf 2 = .ok (.iconst 0, 1) := by decide +kernel
theorem dX10_rankOf_3 : decode cX10_rankOf 3 = .ok (.istore 4, 2) := by decide +kernel
theorem dX10_rankOf_5 : decode cX10_rankOf 5 = .ok (.aload_n 0, 1) := by decide +kernel
theorem dX10_rankOf_6 : decode cX10_rankOf 6 = .ok (.getfield 38, 3) := by decide +kernel
theorem dX10_rankOf_9 : decode cX10_rankOf 9 = .ok (.iload_n 1, 1) := by decide +kernel
theorem dX10_rankOf_10 : decode cX10_rankOf 10 = .ok (.baload, 1) := by decide +kernel
theorem dX10_rankOf_11 : decode cX10_rankOf 11 = .ok (.ifCond .eq 43, 3) := by decide +kernel
theorem dX10_rankOf_14 : decode cX10_rankOf 14 = .ok (.iload 4, 2) := by decide +kernel
theorem dX10_rankOf_16 : decode cX10_rankOf 16 = .ok (.aload_n 0, 1) := by decide +kernel
theorem dX10_rankOf_17 : decode cX10_rankOf 17 = .ok (.getfield 42, 3) := by decide +kernel
theorem dX10_rankOf_20 : decode cX10_rankOf 20 = .ok (.iload_n 1, 1) := by decide +kernel
theorem dX10_rankOf_21 : decode cX10_rankOf 21 = .ok (.iaload, 1) := by decide +kernel
theorem dX10_rankOf_22 : decode cX10_rankOf 22 = .ok (.if_icmp .ge 32, 3) := by decide +kernel
theorem dX10_rankOf_25 : decode cX10_rankOf 25 = .ok (.aload_n 0, 1) := by decide +kernel
theorem dX10_rankOf_26 : decode cX10_rankOf 26 = .ok (.getfield 45, 3) := by decide +kernel
theorem dX10_rankOf_29 : decode cX10_rankOf 29 = .ok (.bipush 20, 2) := by decide +kernel
theorem dX10_rankOf_31 : decode cX10_rankOf 31 = .ok (.iload_n 1, 1) := by decide +kernel
theorem dX10_rankOf_32 : decode cX10_rankOf 32 = .ok (.imul, 1) := by decide +kernel
theorem dX10_rankOf_33 : decode cX10_rankOf 33 = .ok (.iload 4, 2) := by decide +kernel
theorem dX10_rankOf_35 : decode cX10_rankOf 35 = .ok (.iadd, 1) := by decide +kernel
theorem dX10_rankOf_36 : decode cX10_rankOf 36 = .ok (.iaload, 1) := by decide +kernel
theorem dX10_rankOf_37 : decode cX10_rankOf 37 = .ok (.iload_n 2, 1) := by decide +kernel
theorem dX10_rankOf_38 : decode cX10_rankOf 38 = .ok (.if_icmp .ne 8, 3) := by decide +kernel
theorem dX10_rankOf_41 : decode cX10_rankOf 41 = .ok (.iload 4, 2) := by decide +kernel
theorem dX10_rankOf_43 : decode cX10_rankOf 43 = .ok (.goto 4, 3) := by decide +kernel
theorem dX10_rankOf_46 : decode cX10_rankOf 46 = .ok (.iload_n 3, 1) := by decide +kernel
theorem dX10_rankOf_47 : decode cX10_rankOf 47 = .ok (.istore_n 3, 1) := by decide +kernel
theorem dX10_rankOf_48 : decode cX10_rankOf 48 = .ok (.iinc 4 1, 3) := by decide +kernel
theorem dX10_rankOf_51 : decode cX10_rankOf 51 = .ok (.goto (-46), 3) := by decide +kernel
theorem dX10_rankOf_54 : decode cX10_rankOf 54 = .ok (.iload_n 3, 1) := by decide +kernel
theorem dX10_rankOf_55 : decode cX10_rankOf 55 = .ok (.ireturn, 1) := by decide +kernel
theorem dX10_share_0 : decode cX10_share 0 = .ok (.iload_n 1, 1) := by decide +kernel
theorem dX10_share_1 : decode cX10_share 1 = .ok (.ifCond .ne 14, 3) := by decide +kernel
theorem dX10_share_4 : decode cX10_share 4 = .ok (.dconst 1, 1) := by decide +kernel
theorem dX10_share_5 : decode cX10_share 5 = .ok (.ldc2_w 234, 3) := by decide +kernel
theorem dX10_share_8 : decode cX10_share 8 = .ok (.iload_n 3, 1) := by decide +kernel
theorem dX10_share_9 : decode cX10_share 9 = .ok (.iconst 1, 1) := by decide +kernel
theorem dX10_share_10 : decode cX10_share 10 = .ok (.iadd, 1) := by decide +kernel
theorem dX10_share_11 : decode cX10_share 11 = .ok (.i2d, 1) := by decide +kernel
theorem dX10_share_12 : decode cX10_share 12 = .ok (.dadd, 1) := by decide +kernel
theorem dX10_share_13 : decode cX10_share 13 = .ok (.ddiv, 1) := by decide +kernel
theorem dX10_share_14 : decode cX10_share 14 = .ok (.dreturn, 1) := by decide +kernel
theorem dX10_share_15 : decode cX10_share 15 = .ok (.aload_n 0, 1) := by decide +kernel
theorem dX10_share_16 : decode cX10_share 16 = .ok (.getfield 48, 3) := by decide +kernel
theorem dX10_share_19 : decode cX10_share 19 = .ok (.bipush 20, 2) := by decide +kernel
theorem dX10_share_21 : decode cX10_share 21 = .ok (.iload_n 2, 1) := by decide +kernel
theorem dX10_share_22 : decode cX10_share 22 = .ok (.imul, 1) := by decide +kernel
theorem dX10_share_23 : decode cX10_share 23 = .ok (.daload, 1) := by decide +kernel
theorem dX10_share_24 : decode cX10_share 24 = .ok (.dstore 4, 2) := by decide +kernel
theorem dX10_share_26 : decode cX10_share 26 = .ok (.aload_n 0, 1) := by decide +kernel
theorem dX10_share_27 : decode cX10_share 27 = .ok (.getfield 48, 3) := by decide +kernel
theorem dX10_share_30 : decode cX10_share 30 = .ok (.bipush 20, 2) := by decide +kernel
theorem dX10_share_32 : decode cX10_share 32 = .ok (.iload_n 2, 1) := by decide +kernel
theorem dX10_share_33 : decode cX10_share 33 = .ok (.imul, 1) := by decide +kernel
theorem dX10_share_34 : decode cX10_share 34 = .ok (.aload_n 0, 1) := by decide +kernel
theorem dX10_share_35 : decode cX10_share 35 = .ok (.getfield 42, 3) := by decide +kernel
theorem dX10_share_38 : decode cX10_share 38 = .ok (.iload_n 2, 1) := by decide +kernel
theorem dX10_share_39 : decode cX10_share 39 = .ok (.iaload, 1) := by decide +kernel
theorem dX10_share_40 : decode cX10_share 40 = .ok (.iadd, 1) := by decide +kernel
theorem dX10_share_41 : decode cX10_share 41 = .ok (.iconst 1, 1) := by decide +kernel
theorem dX10_share_42 : decode cX10_share 42 = .ok (.isub, 1) := by decide +kernel
theorem dX10_share_43 : decode cX10_share 43 = .ok (.daload, 1) := by decide +kernel
theorem dX10_share_44 : decode cX10_share 44 = .ok (.dstore 6, 2) := by decide +kernel
theorem dX10_share_46 : decode cX10_share 46 = .ok (.dload 4, 2) := by decide +kernel
theorem dX10_share_48 : decode cX10_share 48 = .ok (.dload 6, 2) := by decide +kernel
theorem dX10_share_50 : decode cX10_share 50 = .ok (.dcmp .l, 1) := by decide +kernel
theorem dX10_share_51 : decode cX10_share 51 = .ok (.ifCond .ne 7, 3) := by decide +kernel
theorem dX10_share_54 : decode cX10_share 54 = .ok (.dconst 1, 1) := by decide +kernel
theorem dX10_share_55 : decode cX10_share 55 = .ok (.goto 23, 3) := by decide +kernel
theorem dX10_share_58 : decode cX10_share 58 = .ok (.aload_n 0, 1) := by decide +kernel
theorem dX10_share_59 : decode cX10_share 59 = .ok (.getfield 48, 3) := by decide +kernel
theorem dX10_share_62 : decode cX10_share 62 = .ok (.bipush 20, 2) := by decide +kernel
theorem dX10_share_64 : decode cX10_share 64 = .ok (.iload_n 2, 1) := by decide +kernel
theorem dX10_share_65 : decode cX10_share 65 = .ok (.imul, 1) := by decide +kernel
theorem dX10_share_66 : decode cX10_share 66 = .ok (.iload_n 3, 1) := by decide +kernel
theorem dX10_share_67 : decode cX10_share 67 = .ok (.iadd, 1) := by decide +kernel
theorem dX10_share_68 : decode cX10_share 68 = .ok (.daload, 1) := by decide +kernel
theorem dX10_share_69 : decode cX10_share 69 = .ok (.dload 6, 2) := by decide +kernel
theorem dX10_share_71 : decode cX10_share 71 = .ok (.dsub, 1) := by decide +kernel
theorem dX10_share_72 : decode cX10_share 72 = .ok (.dload 4, 2) := by decide +kernel
theorem dX10_share_74 : decode cX10_share 74 = .ok (.dload 6, 2) := by decide +kernel
theorem dX10_share_76 : decode cX10_share 76 = .ok (.dsub, 1) := by decide +kernel
theorem dX10_share_77 : decode cX10_share 77 = .ok (.ddiv, 1) := by decide +kernel
theorem dX10_share_78 : decode cX10_share 78 = .ok (.dreturn, 1) := by decide +kernel
set_option maxRecDepth 20000 in
theorem ggX10_fuse_X10_outside : GoodIn wsX10_fuse wsX10_outside := goodIn_r _ [13] (by decide +kernel) (by decide +kernel)
set_option maxRecDepth 20000 in
theorem gX10_fuse_X10_outside : GoodIn wsX10_fuse (va_wsS RX10 92 yX10_outside wsX10_outside) := goodIn_app (goodIn_of _ (by decide +kernel)) ggX10_fuse_X10_outside
set_option maxRecDepth 20000 in
theorem ggX10_fuse_X10_rankOf : GoodIn wsX10_fuse wsX10_rankOf := goodIn_r _ [17, 1, 18, 19, 30, 31, 32, 33, 34, 35, 36, 37, 38, 39, 40, 41, 42, 43, 44, 45, 46, 47, 48, 49, 50, 51, 52, 53, 54, 55, 56, 57, 58, 59, 60, 61] (by decide +kernel) (by decide +kernel)
set_option maxRecDepth 20000 in
theorem gX10_fuse_X10_rankOf : GoodIn wsX10_fuse (wsV RX10 236 RX10 yX10_rankOf wsX10_rankOf) := goodIn_app (goodIn_of _ (by decide +kernel)) ggX10_fuse_X10_rankOf
set_option maxRecDepth 20000 in
theorem ggX10_fuse_X10_share : GoodIn wsX10_fuse wsX10_share := goodIn_r _ [23, 24, 25, 18, 30, 31, 32, 33, 34, 35, 36, 37, 38, 39, 40, 41, 42, 43, 44, 45, 46, 47, 48, 49, 50, 51, 52, 53, 54, 55, 56, 57, 58, 59, 60, 61] (by decide +kernel) (by decide +kernel)
set_option maxRecDepth 20000 in
theorem gX10_fuse_X10_share : GoodIn wsX10_fuse (wsV RX10 239 RX10 yX10_share wsX10_share) := goodIn_app (goodIn_of _ (by decide +kernel)) ggX10_fuse_X10_share
set_option maxRecDepth 20000 in
theorem ggX10_fuse_X10_enter : GoodIn wsX10_fuse wsX10_enter := goodIn_r _ [29, 3, 9, 7, 30, 31, 32, 33, 34, 35, 36, 37, 38, 39, 40, 41, 42, 43, 44, 45, 46, 47, 48, 49, 50, 51, 52, 53, 54, 55, 56, 57, 58, 59, 60, 61] (by decide +kernel) (by decide +kernel)
set_option maxRecDepth 20000 in
theorem gX10_fuse_X10_enter : GoodIn wsX10_fuse (wsV RX10 186 RX10 yX10_enter wsX10_enter) := goodIn_app (goodIn_of _ (by decide +kernel)) ggX10_fuse_X10_enter
theorem dX10_fuse_0 : decode cX10_fuse 0 = .ok (.aload_n 0, 1) := by decide +kernel
theorem dX10_fuse_1 : decode cX10_fuse 1 = .ok (.iload_n 1, 1) := by decide +kernel
theorem dX10_fuse_2 : decode cX10_fuse 2 = .ok (.iconst 3, 1) := by decide +kernel
theorem dX10_fuse_3 : decode cX10_fuse 3 = .ok (.invokestatic 92, 3) := by decide +kernel
theorem dX10_fuse_6 : decode cX10_fuse 6 = .ok (.ifCond .eq 7, 3) := by decide +kernel
theorem dX10_fuse_9 : decode cX10_fuse 9 = .ok (.iconst 1, 1) := by decide +kernel
theorem dX10_fuse_10 : decode cX10_fuse 10 = .ok (.goto 35, 3) := by decide +kernel
theorem dX10_fuse_13 : decode cX10_fuse 13 = .ok (.aload_n 0, 1) := by decide +kernel
theorem dX10_fuse_14 : decode cX10_fuse 14 = .ok (.getfield 38, 3) := by decide +kernel
theorem dX10_fuse_17 : decode cX10_fuse 17 = .ok (.iconst 0, 1) := by decide +kernel
theorem dX10_fuse_18 : decode cX10_fuse 18 = .ok (.baload, 1) := by decide +kernel
theorem dX10_fuse_19 : decode cX10_fuse 19 = .ok (.ifCond .ne 25, 3) := by decide +kernel
theorem dX10_fuse_22 : decode cX10_fuse 22 = .ok (.aload_n 0, 1) := by decide +kernel
theorem dX10_fuse_23 : decode cX10_fuse 23 = .ok (.getfield 38, 3) := by decide +kernel
theorem dX10_fuse_26 : decode cX10_fuse 26 = .ok (.iconst 1, 1) := by decide +kernel
theorem dX10_fuse_27 : decode cX10_fuse 27 = .ok (.baload, 1) := by decide +kernel
theorem dX10_fuse_28 : decode cX10_fuse 28 = .ok (.ifCond .ne 16, 3) := by decide +kernel
theorem dX10_fuse_31 : decode cX10_fuse 31 = .ok (.aload_n 0, 1) := by decide +kernel
theorem dX10_fuse_32 : decode cX10_fuse 32 = .ok (.getfield 38, 3) := by decide +kernel
theorem dX10_fuse_35 : decode cX10_fuse 35 = .ok (.iconst 2, 1) := by decide +kernel
theorem dX10_fuse_36 : decode cX10_fuse 36 = .ok (.baload, 1) := by decide +kernel
theorem dX10_fuse_37 : decode cX10_fuse 37 = .ok (.ifCond .ne 7, 3) := by decide +kernel
theorem dX10_fuse_40 : decode cX10_fuse 40 = .ok (.iconst 2, 1) := by decide +kernel
theorem dX10_fuse_41 : decode cX10_fuse 41 = .ok (.goto 4, 3) := by decide +kernel
theorem dX10_fuse_44 : decode cX10_fuse 44 = .ok (.iconst 0, 1) := by decide +kernel
theorem dX10_fuse_45 : decode cX10_fuse 45 = .ok (.putfield 73, 3) := by decide +kernel
theorem dX10_fuse_48 : decode cX10_fuse 48 = .ok (.aload_n 0, 1) := by decide +kernel
theorem dX10_fuse_49 : decode cX10_fuse 49 = .ok (.getfield 73, 3) := by decide +kernel
theorem dX10_fuse_52 : decode cX10_fuse 52 = .ok (.ifCond .le 5, 3) := by decide +kernel
theorem dX10_fuse_55 : decode cX10_fuse 55 = .ok (.iconst 0, 1) := by decide +kernel
theorem dX10_fuse_56 : decode cX10_fuse 56 = .ok (.ireturn, 1) := by decide +kernel
theorem dX10_fuse_57 : decode cX10_fuse 57 = .ok (.aload_n 0, 1) := by decide +kernel
theorem dX10_fuse_58 : decode cX10_fuse 58 = .ok (.iconst 0, 1) := by decide +kernel
theorem dX10_fuse_59 : decode cX10_fuse 59 = .ok (.putfield 177, 3) := by decide +kernel
theorem dX10_fuse_62 : decode cX10_fuse 62 = .ok (.iconst 0, 1) := by decide +kernel
theorem dX10_fuse_63 : decode cX10_fuse 63 = .ok (.istore_n 2, 1) := by decide +kernel
theorem dX10_fuse_64 : decode cX10_fuse 64 = .ok (.iload_n 2, 1) := by decide +kernel
theorem dX10_fuse_65 : decode cX10_fuse 65 = .ok (.aload_n 0, 1) := by decide +kernel
theorem dX10_fuse_66 : decode cX10_fuse 66 = .ok (.getfield 86, 3) := by decide +kernel
theorem dX10_fuse_69 : decode cX10_fuse 69 = .ok (.if_icmp .ge 88, 3) := by decide +kernel
theorem dX10_fuse_72 : decode cX10_fuse 72 = .ok (.dconst 0, 1) := by decide +kernel
theorem dX10_fuse_73 : decode cX10_fuse 73 = .ok (.dstore_n 3, 1) := by decide +kernel
theorem dX10_fuse_74 : decode cX10_fuse 74 = .ok (.iconst 0, 1) := by decide +kernel
theorem dX10_fuse_75 : decode cX10_fuse 75 = .ok (.istore 5, 2) := by decide +kernel
theorem dX10_fuse_77 : decode cX10_fuse 77 = .ok (.iconst 0, 1) := by decide +kernel
theorem dX10_fuse_78 : decode cX10_fuse 78 = .ok (.istore 6, 2) := by decide +kernel
theorem dX10_fuse_80 : decode cX10_fuse 80 = .ok (.iload 6, 2) := by decide +kernel
theorem dX10_fuse_82 : decode cX10_fuse 82 = .ok (.iconst 3, 1) := by decide +kernel
theorem dX10_fuse_83 : decode cX10_fuse 83 = .ok (.if_icmp .ge 42, 3) := by decide +kernel
theorem dX10_fuse_86 : decode cX10_fuse 86 = .ok (.aload_n 0, 1) := by decide +kernel
theorem dX10_fuse_87 : decode cX10_fuse 87 = .ok (.iload 6, 2) := by decide +kernel
theorem dX10_fuse_89 : decode cX10_fuse 89 = .ok (.iload_n 2, 1) := by decide +kernel
theorem dX10_fuse_90 : decode cX10_fuse 90 = .ok (.invokevirtual 236, 3) := by decide +kernel
theorem dX10_fuse_93 : decode cX10_fuse 93 = .ok (.istore 7, 2) := by decide +kernel
theorem dX10_fuse_95 : decode cX10_fuse 95 = .ok (.iload 7, 2) := by decide +kernel
theorem dX10_fuse_97 : decode cX10_fuse 97 = .ok (.iconst (-1), 1) := by decide +kernel
theorem dX10_fuse_98 : decode cX10_fuse 98 = .ok (.if_icmp .ne 6, 3) := by decide +kernel
theorem dX10_fuse_101 : decode cX10_fuse 101 = .ok (.goto 18, 3) := by decide +kernel
theorem dX10_fuse_104 : decode cX10_fuse 104 = .ok (.dload_n 3, 1) := by decide +kernel
theorem dX10_fuse_105 : decode cX10_fuse 105 = .ok (.aload_n 0, 1) := by decide +kernel
theorem dX10_fuse_106 : decode cX10_fuse 106 = .ok (.iload_n 1, 1) := by decide +kernel
theorem dX10_fuse_107 : decode cX10_fuse 107 = .ok (.iload 6, 2) := by decide +kernel
theorem dX10_fuse_109 : decode cX10_fuse 109 = .ok (.iload 7, 2) := by decide +kernel
theorem dX10_fuse_111 : decode cX10_fuse 111 = .ok (.invokevirtual 239, 3) := by decide +kernel
theorem dX10_fuse_114 : decode cX10_fuse 114 = .ok (.dadd, 1) := by decide +kernel
theorem dX10_fuse_115 : decode cX10_fuse 115 = .ok (.dstore_n 3, 1) := by decide +kernel
theorem dX10_fuse_116 : decode cX10_fuse 116 = .ok (.iinc 5 1, 3) := by decide +kernel
theorem dX10_fuse_119 : decode cX10_fuse 119 = .ok (.iinc 6 1, 3) := by decide +kernel
theorem dX10_fuse_122 : decode cX10_fuse 122 = .ok (.goto (-42), 3) := by decide +kernel
theorem dX10_fuse_125 : decode cX10_fuse 125 = .ok (.iload 5, 2) := by decide +kernel
theorem dX10_fuse_127 : decode cX10_fuse 127 = .ok (.ifCond .le 24, 3) := by decide +kernel
theorem dX10_fuse_130 : decode cX10_fuse 130 = .ok (.aload_n 0, 1) := by decide +kernel
theorem dX10_fuse_131 : decode cX10_fuse 131 = .ok (.iload_n 2, 1) := by decide +kernel
theorem dX10_fuse_132 : decode cX10_fuse 132 = .ok (.iload_n 1, 1) := by decide +kernel
theorem dX10_fuse_133 : decode cX10_fuse 133 = .ok (.iconst 2, 1) := by decide +kernel
theorem dX10_fuse_134 : decode cX10_fuse 134 = .ok (.if_icmp .ne 11, 3) := by decide +kernel
theorem dX10_fuse_137 : decode cX10_fuse 137 = .ok (.dload_n 3, 1) := by decide +kernel
theorem dX10_fuse_138 : decode cX10_fuse 138 = .ok (.iload 5, 2) := by decide +kernel
theorem dX10_fuse_140 : decode cX10_fuse 140 = .ok (.i2d, 1) := by decide +kernel
theorem dX10_fuse_141 : decode cX10_fuse 141 = .ok (.dmul, 1) := by decide +kernel
theorem dX10_fuse_142 : decode cX10_fuse 142 = .ok (.goto 4, 3) := by decide +kernel
theorem dX10_fuse_145 : decode cX10_fuse 145 = .ok (.dload_n 3, 1) := by decide +kernel
theorem dX10_fuse_146 : decode cX10_fuse 146 = .ok (.bipush 20, 2) := by decide +kernel
theorem dX10_fuse_148 : decode cX10_fuse 148 = .ok (.invokevirtual 186, 3) := by decide +kernel
theorem dX10_fuse_151 : decode cX10_fuse 151 = .ok (.iinc 2 1, 3) := by decide +kernel
theorem dX10_fuse_154 : decode cX10_fuse 154 = .ok (.goto (-90), 3) := by decide +kernel
theorem dX10_fuse_157 : decode cX10_fuse 157 = .ok (.aload_n 0, 1) := by decide +kernel
theorem dX10_fuse_158 : decode cX10_fuse 158 = .ok (.aload_n 0, 1) := by decide +kernel
theorem dX10_fuse_159 : decode cX10_fuse 159 = .ok (.getfield 177, 3) := by decide +kernel
theorem dX10_fuse_162 : decode cX10_fuse 162 = .ok (.putfield 79, 3) := by decide +kernel
theorem dX10_fuse_165 : decode cX10_fuse 165 = .ok (.iconst 0, 1) := by decide +kernel
theorem dX10_fuse_166 : decode cX10_fuse 166 = .ok (.istore_n 2, 1) := by decide +kernel
theorem dX10_fuse_167 : decode cX10_fuse 167 = .ok (.iload_n 2, 1) := by decide +kernel
theorem dX10_fuse_168 : decode cX10_fuse 168 = .ok (.aload_n 0, 1) := by decide +kernel
theorem dX10_fuse_169 : decode cX10_fuse 169 = .ok (.getfield 177, 3) := by decide +kernel
theorem dX10_fuse_172 : decode cX10_fuse 172 = .ok (.if_icmp .ge 33, 3) := by decide +kernel
theorem dX10_fuse_175 : decode cX10_fuse 175 = .ok (.aload_n 0, 1) := by decide +kernel
theorem dX10_fuse_176 : decode cX10_fuse 176 = .ok (.getfield 67, 3) := by decide +kernel
theorem dX10_fuse_179 : decode cX10_fuse 179 = .ok (.iload_n 2, 1) := by decide +kernel
theorem dX10_fuse_180 : decode cX10_fuse 180 = .ok (.aload_n 0, 1) := by decide +kernel
theorem dX10_fuse_181 : decode cX10_fuse 181 = .ok (.getfield 55, 3) := by decide +kernel
theorem dX10_fuse_184 : decode cX10_fuse 184 = .ok (.iload_n 2, 1) := by decide +kernel
theorem dX10_fuse_185 : decode cX10_fuse 185 = .ok (.iaload, 1) := by decide +kernel
theorem dX10_fuse_186 : decode cX10_fuse 186 = .ok (.iastore, 1) := by decide +kernel
theorem dX10_fuse_187 : decode cX10_fuse 187 = .ok (.aload_n 0, 1) := by decide +kernel
theorem dX10_fuse_188 : decode cX10_fuse 188 = .ok (.getfield 70, 3) := by decide +kernel
theorem dX10_fuse_191 : decode cX10_fuse 191 = .ok (.iload_n 2, 1) := by decide +kernel
theorem dX10_fuse_192 : decode cX10_fuse 192 = .ok (.aload_n 0, 1) := by decide +kernel
theorem dX10_fuse_193 : decode cX10_fuse 193 = .ok (.getfield 58, 3) := by decide +kernel
theorem dX10_fuse_196 : decode cX10_fuse 196 = .ok (.iload_n 2, 1) := by decide +kernel
theorem dX10_fuse_197 : decode cX10_fuse 197 = .ok (.daload, 1) := by decide +kernel
theorem dX10_fuse_198 : decode cX10_fuse 198 = .ok (.dastore, 1) := by decide +kernel
theorem dX10_fuse_199 : decode cX10_fuse 199 = .ok (.iinc 2 1, 3) := by decide +kernel
theorem dX10_fuse_202 : decode cX10_fuse 202 = .ok (.goto (-35), 3) := by decide +kernel
theorem dX10_fuse_205 : decode cX10_fuse 205 = .ok (.aload_n 0, 1) := by decide +kernel
theorem dX10_fuse_206 : decode cX10_fuse 206 = .ok (.getfield 177, 3) := by decide +kernel
theorem dX10_fuse_209 : decode cX10_fuse 209 = .ok (.ireturn, 1) := by decide +kernel
set_option maxRecDepth 20000 in
theorem ggX10_fused_X10_outside : GoodIn wsX10_fused wsX10_outside := goodIn_r _ [7] (by decide +kernel) (by decide +kernel)
set_option maxRecDepth 20000 in
theorem gX10_fused_X10_outside : GoodIn wsX10_fused (va_wsS RX10 92 yX10_outside wsX10_outside) := goodIn_app (goodIn_of _ (by decide +kernel)) ggX10_fused_X10_outside
theorem dX10_fused_0 : decode cX10_fused 0 = .ok (.aload_n 0, 1) := by decide +kernel
theorem dX10_fused_1 : decode cX10_fused 1 = .ok (.iload_n 1, 1) := by decide +kernel
theorem dX10_fused_2 : decode cX10_fused 2 = .ok (.aload_n 0, 1) := by decide +kernel
theorem dX10_fused_3 : decode cX10_fused 3 = .ok (.getfield 79, 3) := by decide +kernel
theorem dX10_fused_6 : decode cX10_fused 6 = .ok (.invokestatic 92, 3) := by decide +kernel
theorem dX10_fused_9 : decode cX10_fused 9 = .ok (.ifCond .eq 7, 3) := by decide +kernel
theorem dX10_fused_12 : decode cX10_fused 12 = .ok (.iconst 1, 1) := by decide +kernel
theorem dX10_fused_13 : decode cX10_fused 13 = .ok (.goto 4, 3) := by decide +kernel
theorem dX10_fused_16 : decode cX10_fused 16 = .ok (.iconst 0, 1) := by decide +kernel
theorem dX10_fused_17 : decode cX10_fused 17 = .ok (.putfield 73, 3) := by decide +kernel
theorem dX10_fused_20 : decode cX10_fused 20 = .ok (.aload_n 0, 1) := by decide +kernel
theorem dX10_fused_21 : decode cX10_fused 21 = .ok (.getfield 73, 3) := by decide +kernel
theorem dX10_fused_24 : decode cX10_fused 24 = .ok (.ifCond .le 7, 3) := by decide +kernel
theorem dX10_fused_27 : decode cX10_fused 27 = .ok (.iconst 0, 1) := by decide +kernel
theorem dX10_fused_28 : decode cX10_fused 28 = .ok (.goto 9, 3) := by decide +kernel
theorem dX10_fused_31 : decode cX10_fused 31 = .ok (.aload_n 0, 1) := by decide +kernel
theorem dX10_fused_32 : decode cX10_fused 32 = .ok (.getfield 67, 3) := by decide +kernel
theorem dX10_fused_35 : decode cX10_fused 35 = .ok (.iload_n 1, 1) := by decide +kernel
theorem dX10_fused_36 : decode cX10_fused 36 = .ok (.iaload, 1) := by decide +kernel
theorem dX10_fused_37 : decode cX10_fused 37 = .ok (.ireturn, 1) := by decide +kernel
set_option maxRecDepth 20000 in
theorem ggX10_rating_X10_outside : GoodIn wsX10_rating wsX10_outside := goodIn_r _ [7] (by decide +kernel) (by decide +kernel)
set_option maxRecDepth 20000 in
theorem gX10_rating_X10_outside : GoodIn wsX10_rating (va_wsS RX10 92 yX10_outside wsX10_outside) := goodIn_app (goodIn_of _ (by decide +kernel)) ggX10_rating_X10_outside
theorem dX10_rating_0 : decode cX10_rating 0 = .ok (.aload_n 0, 1) := by decide +kernel
theorem dX10_rating_1 : decode cX10_rating 1 = .ok (.iload_n 1, 1) := by decide +kernel
theorem dX10_rating_2 : decode cX10_rating 2 = .ok (.aload_n 0, 1) := by decide +kernel
theorem dX10_rating_3 : decode cX10_rating 3 = .ok (.getfield 79, 3) := by decide +kernel
theorem dX10_rating_6 : decode cX10_rating 6 = .ok (.invokestatic 92, 3) := by decide +kernel
theorem dX10_rating_9 : decode cX10_rating 9 = .ok (.ifCond .eq 7, 3) := by decide +kernel
theorem dX10_rating_12 : decode cX10_rating 12 = .ok (.iconst 1, 1) := by decide +kernel
theorem dX10_rating_13 : decode cX10_rating 13 = .ok (.goto 4, 3) := by decide +kernel
theorem dX10_rating_16 : decode cX10_rating 16 = .ok (.iconst 0, 1) := by decide +kernel
theorem dX10_rating_17 : decode cX10_rating 17 = .ok (.putfield 73, 3) := by decide +kernel
theorem dX10_rating_20 : decode cX10_rating 20 = .ok (.aload_n 0, 1) := by decide +kernel
theorem dX10_rating_21 : decode cX10_rating 21 = .ok (.getfield 73, 3) := by decide +kernel
theorem dX10_rating_24 : decode cX10_rating 24 = .ok (.ifCond .le 7, 3) := by decide +kernel
theorem dX10_rating_27 : decode cX10_rating 27 = .ok (.dconst 0, 1) := by decide +kernel
theorem dX10_rating_28 : decode cX10_rating 28 = .ok (.goto 9, 3) := by decide +kernel
theorem dX10_rating_31 : decode cX10_rating 31 = .ok (.aload_n 0, 1) := by decide +kernel
theorem dX10_rating_32 : decode cX10_rating 32 = .ok (.getfield 70, 3) := by decide +kernel
theorem dX10_rating_35 : decode cX10_rating 35 = .ok (.iload_n 1, 1) := by decide +kernel
theorem dX10_rating_36 : decode cX10_rating 36 = .ok (.daload, 1) := by decide +kernel
theorem dX10_rating_37 : decode cX10_rating 37 = .ok (.dreturn, 1) := by decide +kernel
theorem dJ9_max_7cf53_0 : decode cJ9_max_7cf53 0 = .ok (.iload_n 0, 1) := by decide +kernel
theorem dJ9_max_7cf53_1 : decode cJ9_max_7cf53 1 = .ok (.iload_n 1, 1) := by decide +kernel
theorem dJ9_max_7cf53_2 : decode cJ9_max_7cf53 2 = .ok (.if_icmp .lt 7, 3) := by decide +kernel
theorem dJ9_max_7cf53_5 : decode cJ9_max_7cf53 5 = .ok (.iload_n 0, 1) := by decide +kernel
theorem dJ9_max_7cf53_6 : decode cJ9_max_7cf53 6 = .ok (.goto 4, 3) := by decide +kernel
theorem dJ9_max_7cf53_9 : decode cJ9_max_7cf53 9 = .ok (.iload_n 1, 1) := by decide +kernel
theorem dJ9_max_7cf53_10 : decode cJ9_max_7cf53 10 = .ok (.ireturn, 1) := by decide +kernel
theorem dJ9_min_7cf53_0 : decode cJ9_min_7cf53 0 = .ok (.iload_n 0, 1) := by decide +kernel
theorem dJ9_min_7cf53_1 : decode cJ9_min_7cf53 1 = .ok (.iload_n 1, 1) := by decide +kernel
theorem dJ9_min_7cf53_2 : decode cJ9_min_7cf53 2 = .ok (.if_icmp .gt 7, 3) := by decide +kernel
theorem dJ9_min_7cf53_5 : decode cJ9_min_7cf53 5 = .ok (.iload_n 0, 1) := by decide +kernel
theorem dJ9_min_7cf53_6 : decode cJ9_min_7cf53 6 = .ok (.goto 4, 3) := by decide +kernel
theorem dJ9_min_7cf53_9 : decode cJ9_min_7cf53 9 = .ok (.iload_n 1, 1) := by decide +kernel
theorem dJ9_min_7cf53_10 : decode cJ9_min_7cf53 10 = .ok (.ireturn, 1) := by decide +kernel
set_option maxRecDepth 20000 in
theorem ggL_document_X9_document : GoodIn wsL_document wsX9_document := goodIn_ca (goodIn_r _ [6, 7, 8, 9, 10, 11, 12, 13, 14, 15, 16, 17, 18, 5, 19, 20, 21, 22, 23, 24, 25, 26, 27, 28, 29, 30, 31, 32, 33, 34, 35, 36, 37, 38, 39, 40, 41, 42, 43, 44, 45, 46, 47, 48, 49, 50, 51, 52, 53, 54, 55, 56, 57, 58, 59, 60, 61, 62, 63, 64, 65, 66, 67, 68, 69, 70, 71, 72, 73, 74, 75, 76, 77, 78, 79] (by decide +kernel) (by decide +kernel)) (goodIn_sub (fun _ h => List.mem_cons_of_mem _ (List.mem_append_right _ h)) (by decide +kernel))
set_option maxRecDepth 20000 in
theorem gL_document_X9_document : GoodIn wsL_document (wsV RL 7 RX9 yX9_document wsX9_document) := goodIn_app (goodIn_of _ (by decide +kernel)) ggL_document_X9_document
theorem dL_document_0 : decode cL_document 0 = .ok (.aload_n 1, 1) := by decide +kernel
theorem dL_document_1 : decode cL_document 1 = .ok (.iconst 0, 1) := by decide +kernel
theorem dL_document_2 : decode cL_document 2 = .ok (.aload_n 0, 1) := by decide +kernel
theorem dL_document_3 : decode cL_document 3 = .ok (.invokevirtual 7, 3) := by decide +kernel
theorem dL_document_6 : decode cL_document 6 = .ok (.i2l, 1) := by decide +kernel
theorem dL_document_7 : decode cL_document 7 = .ok (.lastore, 1) := by decide +kernel
theorem dL_document_8 : decode cL_document 8 = .ok (.goto 6, 3) := by decide +kernel
theorem dL_document_11 : decode cL_document 11 = .ok (.astore_n 2, 1) := by decide +kernel
theorem dL_document_12 : decode cL_document 12 = .ok (.iconst 1, 1) := by decide +kernel
theorem dL_document_13 : decode cL_document 13 = .ok (.ireturn, 1) := by decide +kernel
theorem dL_document_14 : decode cL_document 14 = .ok (.iconst 0, 1) := by decide +kernel
theorem dL_document_15 : decode cL_document 15 = .ok (.ireturn, 1) := by decide +kernel
set_option maxRecDepth 20000 in
theorem ggL_count_X9_count : GoodIn wsL_count wsX9_count := goodIn_ca (goodIn_ca (goodIn_r _ [7, 8, 9, 10, 11, 12, 13, 14, 15, 16, 17, 18, 19, 20, 6, 21, 22, 23, 24, 25, 26, 27, 28, 29, 30, 31, 32, 33, 34, 35, 36, 37, 38, 39, 40, 41, 42, 43, 44, 45, 46, 47, 48, 49, 50, 51, 52, 53, 54, 55, 56, 57, 58, 59, 60, 61, 62, 63, 64, 65, 66, 67, 68, 69, 70, 71, 72, 73, 74, 75, 76, 77, 78, 79, 80, 81, 82, 83, 84, 85, 86, 87, 88, 89, 90, 91] (by decide +kernel) (by decide +kernel)) (goodIn_sub (fun _ h => List.mem_cons_of_mem _ (List.mem_append_left _ (List.mem_append_right _ h))) (by decide +kernel))) (goodIn_sub (fun _ h => List.mem_cons_of_mem _ (List.mem_append_right _ h)) (by decide +kernel))
set_option maxRecDepth 20000 in
theorem gL_count_X9_count : GoodIn wsL_count (wsV RL 15 RX9 yX9_count wsX9_count) := goodIn_app (goodIn_of _ (by decide +kernel)) ggL_count_X9_count
theorem dL_count_0 : decode cL_count 0 = .ok (.aload_n 3, 1) := by decide +kernel
theorem dL_count_1 : decode cL_count 1 = .ok (.iconst 0, 1) := by decide +kernel
theorem dL_count_2 : decode cL_count 2 = .ok (.aload_n 0, 1) := by decide +kernel
theorem dL_count_3 : decode cL_count 3 = .ok (.iload_n 1, 1) := by decide +kernel
theorem dL_count_4 : decode cL_count 4 = .ok (.iload_n 2, 1) := by decide +kernel
theorem dL_count_5 : decode cL_count 5 = .ok (.invokevirtual 15, 3) := by decide +kernel
theorem dL_count_8 : decode cL_count 8 = .ok (.i2l, 1) := by decide +kernel
theorem dL_count_9 : decode cL_count 9 = .ok (.lastore, 1) := by decide +kernel
theorem dL_count_10 : decode cL_count 10 = .ok (.goto 11, 3) := by decide +kernel
theorem dL_count_13 : decode cL_count 13 = .ok (.astore 4, 2) := by decide +kernel
theorem dL_count_15 : decode cL_count 15 = .ok (.iconst 1, 1) := by decide +kernel
theorem dL_count_16 : decode cL_count 16 = .ok (.ireturn, 1) := by decide +kernel
theorem dL_count_17 : decode cL_count 17 = .ok (.astore 4, 2) := by decide +kernel
theorem dL_count_19 : decode cL_count 19 = .ok (.iconst 2, 1) := by decide +kernel
theorem dL_count_20 : decode cL_count 20 = .ok (.ireturn, 1) := by decide +kernel
theorem dL_count_21 : decode cL_count 21 = .ok (.iconst 0, 1) := by decide +kernel
theorem dL_count_22 : decode cL_count 22 = .ok (.ireturn, 1) := by decide +kernel
set_option maxRecDepth 20000 in
theorem ggL_weigh_X9_weigh : GoodIn wsL_weigh wsX9_weigh := goodIn_ca (goodIn_ca (goodIn_r _ [7, 8, 9, 10, 11, 12, 13, 14, 15, 16, 17, 18, 19, 20, 6, 21, 22, 23, 24, 25, 26, 27, 28, 29, 30, 31, 32, 33, 34, 35, 36, 37, 38, 39, 40, 41, 42, 43, 44, 45, 46, 47, 48, 49, 50, 51, 52, 53, 54, 55, 56, 57, 58, 59, 60, 61, 62, 63, 64, 65, 66, 67, 68, 69, 70, 71, 72, 73, 74, 75, 76, 77, 78, 79, 80, 81, 82, 83, 84, 85, 86, 87, 88, 89, 90, 91] (by decide +kernel) (by decide +kernel)) (goodIn_sub (fun _ h => List.mem_cons_of_mem _ (List.mem_append_left _ (List.mem_append_right _ h))) (by decide +kernel))) (goodIn_sub (fun _ h => List.mem_cons_of_mem _ (List.mem_append_right _ h)) (by decide +kernel))
set_option maxRecDepth 20000 in
theorem gL_weigh_X9_weigh : GoodIn wsL_weigh (wsV RL 21 RX9 yX9_weigh wsX9_weigh) := goodIn_app (goodIn_of _ (by decide +kernel)) ggL_weigh_X9_weigh
theorem dL_weigh_0 : decode cL_weigh 0 = .ok (.aload_n 0, 1) := by decide +kernel
theorem dL_weigh_1 : decode cL_weigh 1 = .ok (.iload_n 1, 1) := by decide +kernel
theorem dL_weigh_2 : decode cL_weigh 2 = .ok (.iload_n 2, 1) := by decide +kernel
theorem dL_weigh_3 : decode cL_weigh 3 = .ok (.fload_n 3, 1) := by decide +kernel
theorem dL_weigh_4 : decode cL_weigh 4 = .ok (.invokevirtual 21, 3) := by decide +kernel
theorem dL_weigh_7 : decode cL_weigh 7 = .ok (.goto 11, 3) := by decide +kernel
theorem dL_weigh_10 : decode cL_weigh 10 = .ok (.astore 4, 2) := by decide +kernel
theorem dL_weigh_12 : decode cL_weigh 12 = .ok (.iconst 1, 1) := by decide +kernel
theorem dL_weigh_13 : decode cL_weigh 13 = .ok (.ireturn, 1) := by decide +kernel
theorem dL_weigh_14 : decode cL_weigh 14 = .ok (.astore 4, 2) := by decide +kernel
theorem dL_weigh_16 : decode cL_weigh 16 = .ok (.iconst 2, 1) := by decide +kernel
theorem dL_weigh_17 : decode cL_weigh 17 = .ok (.ireturn, 1) := by decide +kernel
theorem dL_weigh_18 : decode cL_weigh 18 = .ok (.iconst 0, 1) := by decide +kernel
theorem dL_weigh_19 : decode cL_weigh 19 = .ok (.ireturn, 1) := by decide +kernel
set_option maxRecDepth 20000 in
theorem ggL_token_X9_token : GoodIn wsL_token wsX9_token := goodIn_ca (goodIn_ca (goodIn_ca (goodIn_r _ [8, 9, 10, 11, 12, 13, 14, 15, 16, 17, 18, 19, 20, 21, 22, 23, 7, 24, 25, 26, 27, 28, 29, 30, 31, 32, 33, 34, 35, 36, 37, 38, 39, 40, 41, 42, 43, 44, 45, 46, 47, 48, 49, 50, 51, 52, 53, 54, 55, 56, 57, 58, 59, 60, 61, 62, 63, 64, 65, 66, 67, 68, 69, 70, 71, 72, 73, 74, 75, 76, 77, 78, 79, 80, 81, 82, 83, 84, 85, 86, 87, 88, 89, 90, 91, 92, 93, 94, 95, 96, 97, 98, 99, 100, 101, 102, 103, 104, 105, 106, 107, 108, 109] (by decide +kernel) (by decide +kernel)) (goodIn_sub (fun _ h => List.mem_cons_of_mem _ (List.mem_append_left _ (List.mem_append_left _ (List.mem_append_right _ h)))) (by decide +kernel))) (goodIn_sub (fun _ h => List.mem_cons_of_mem _ (List.mem_append_left _ (List.mem_append_right _ h))) (by decide +kernel))) (goodIn_sub (fun _ h => List.mem_cons_of_mem _ (List.mem_append_right _ h)) (by decide +kernel))
set_option maxRecDepth 20000 in
theorem gL_token_X9_token : GoodIn wsL_token (wsV RL 27 RX9 yX9_token wsX9_token) := goodIn_app (goodIn_of _ (by decide +kernel)) ggL_token_X9_token
theorem dL_token_0 : decode cL_token 0 = .ok (.aload 6, 2) := by decide +kernel
theorem dL_token_2 : decode cL_token 2 = .ok (.iconst 0, 1) := by decide +kernel
theorem dL_token_3 : decode cL_token 3 = .ok (.aload_n 0, 1) := by decide +kernel
theorem dL_token_4 : decode cL_token 4 = .ok (.iload_n 1, 1) := by decide +kernel
theorem dL_token_5 : decode cL_token 5 = .ok (.fload_n 2, 1) := by decide +kernel
theorem dL_token_6 : decode cL_token 6 = .ok (.fload_n 3, 1) := by decide +kernel
theorem dL_token_7 : decode cL_token 7 = .ok (.fload 4, 2) := by decide +kernel
theorem dL_token_9 : decode cL_token 9 = .ok (.fload 5, 2) := by decide +kernel
theorem dL_token_11 : decode cL_token 11 = .ok (.invokevirtual 27, 3) := by decide +kernel
theorem dL_token_14 : decode cL_token 14 = .ok (.i2l, 1) := by decide +kernel
theorem dL_token_15 : decode cL_token 15 = .ok (.lastore, 1) := by decide +kernel
theorem dL_token_16 : decode cL_token 16 = .ok (.goto 15, 3) := by decide +kernel
theorem dL_token_19 : decode cL_token 19 = .ok (.astore 7, 2) := by decide +kernel
theorem dL_token_21 : decode cL_token 21 = .ok (.iconst 1, 1) := by decide +kernel
theorem dL_token_22 : decode cL_token 22 = .ok (.ireturn, 1) := by decide +kernel
theorem dL_token_23 : decode cL_token 23 = .ok (.astore 7, 2) := by decide +kernel
theorem dL_token_25 : decode cL_token 25 = .ok (.iconst 2, 1) := by decide +kernel
theorem dL_token_26 : decode cL_token 26 = .ok (.ireturn, 1) := by decide +kernel
theorem dL_token_27 : decode cL_token 27 = .ok (.astore 7, 2) := by decide +kernel
theorem dL_token_29 : decode cL_token 29 = .ok (.iconst 3, 1) := by decide +kernel
theorem dL_token_30 : decode cL_token 30 = .ok (.ireturn, 1) := by decide +kernel
theorem dL_token_31 : decode cL_token 31 = .ok (.iconst 0, 1) := by decide +kernel
theorem dL_token_32 : decode cL_token 32 = .ok (.ireturn, 1) := by decide +kernel
set_option maxRecDepth 20000 in
theorem ggL_centroid_X9_centroid : GoodIn wsL_centroid wsX9_centroid := goodIn_ca (goodIn_ca (goodIn_r _ [7, 8, 9, 10, 11, 12, 13, 14, 6, 15, 16, 17, 18, 19, 20, 21, 22, 23, 24, 25, 26, 27, 28, 29, 30, 31, 32, 33, 34, 35, 36, 37, 38, 39, 40, 41, 42, 43, 44, 45, 46, 47, 48, 49, 50, 51, 52, 53, 54, 55, 56, 57, 58, 59, 60, 61, 62, 63, 64, 65, 66, 67, 68, 69, 70, 71, 72, 73, 74, 75, 76, 77, 78, 79, 80, 81, 82, 83, 84, 85, 86, 87, 88, 89, 90, 91, 92, 93, 94, 95, 96, 97, 98, 99, 100, 101] (by decide +kernel) (by decide +kernel)) (goodIn_sub (fun _ h => List.mem_cons_of_mem _ (List.mem_append_left _ (List.mem_append_right _ h))) (by decide +kernel))) (goodIn_sub (fun _ h => List.mem_cons_of_mem _ (List.mem_append_right _ h)) (by decide +kernel))
set_option maxRecDepth 20000 in
theorem gL_centroid_X9_centroid : GoodIn wsL_centroid (wsV RL 31 RX9 yX9_centroid wsX9_centroid) := goodIn_app (goodIn_of _ (by decide +kernel)) ggL_centroid_X9_centroid
theorem dL_centroid_0 : decode cL_centroid 0 = .ok (.aload 5, 2) := by decide +kernel
theorem dL_centroid_2 : decode cL_centroid 2 = .ok (.iconst 0, 1) := by decide +kernel
theorem dL_centroid_3 : decode cL_centroid 3 = .ok (.aload_n 0, 1) := by decide +kernel
theorem dL_centroid_4 : decode cL_centroid 4 = .ok (.fload_n 1, 1) := by decide +kernel
theorem dL_centroid_5 : decode cL_centroid 5 = .ok (.fload_n 2, 1) := by decide +kernel
theorem dL_centroid_6 : decode cL_centroid 6 = .ok (.fload_n 3, 1) := by decide +kernel
theorem dL_centroid_7 : decode cL_centroid 7 = .ok (.fload 4, 2) := by decide +kernel
theorem dL_centroid_9 : decode cL_centroid 9 = .ok (.invokevirtual 31, 3) := by decide +kernel
theorem dL_centroid_12 : decode cL_centroid 12 = .ok (.i2l, 1) := by decide +kernel
theorem dL_centroid_13 : decode cL_centroid 13 = .ok (.lastore, 1) := by decide +kernel
theorem dL_centroid_14 : decode cL_centroid 14 = .ok (.goto 11, 3) := by decide +kernel
theorem dL_centroid_17 : decode cL_centroid 17 = .ok (.astore 6, 2) := by decide +kernel
theorem dL_centroid_19 : decode cL_centroid 19 = .ok (.iconst 1, 1) := by decide +kernel
theorem dL_centroid_20 : decode cL_centroid 20 = .ok (.ireturn, 1) := by decide +kernel
theorem dL_centroid_21 : decode cL_centroid 21 = .ok (.astore 6, 2) := by decide +kernel
theorem dL_centroid_23 : decode cL_centroid 23 = .ok (.iconst 2, 1) := by decide +kernel
theorem dL_centroid_24 : decode cL_centroid 24 = .ok (.ireturn, 1) := by decide +kernel
theorem dL_centroid_25 : decode cL_centroid 25 = .ok (.iconst 0, 1) := by decide +kernel
theorem dL_centroid_26 : decode cL_centroid 26 = .ok (.ireturn, 1) := by decide +kernel
set_option maxRecDepth 20000 in
theorem ggL_word_X9_word : GoodIn wsL_word wsX9_word := goodIn_ca (goodIn_ca (goodIn_ca (goodIn_r _ [8, 9, 10, 11, 12, 13, 14, 15, 16, 17, 7, 18, 19, 20, 21, 22, 23, 24, 25, 26, 27, 28, 29, 30, 31, 32, 33, 34, 35, 36, 37, 38, 39, 40, 41, 42, 43, 44, 45, 46, 47, 48, 49, 50, 51, 52, 53, 54, 55, 56, 57, 58, 59, 60, 61, 62, 63, 64, 65, 66, 67, 68, 69, 70, 71, 72, 73, 74, 75, 76, 77, 78, 79, 80, 81, 82, 83, 84, 85, 86, 87] (by decide +kernel) (by decide +kernel)) (goodIn_sub (fun _ h => List.mem_cons_of_mem _ (List.mem_append_left _ (List.mem_append_left _ (List.mem_append_right _ h)))) (by decide +kernel))) (goodIn_sub (fun _ h => List.mem_cons_of_mem _ (List.mem_append_left _ (List.mem_append_right _ h))) (by decide +kernel))) (goodIn_sub (fun _ h => List.mem_cons_of_mem _ (List.mem_append_right _ h)) (by decide +kernel))
set_option maxRecDepth 20000 in
theorem gL_word_X9_word : GoodIn wsL_word (wsV RL 35 RX9 yX9_word wsX9_word) := goodIn_app (goodIn_of _ (by decide +kernel)) ggL_word_X9_word
theorem dL_word_0 : decode cL_word 0 = .ok (.aload_n 2, 1) := by decide +kernel
theorem dL_word_1 : decode cL_word 1 = .ok (.iconst 0, 1) := by decide +kernel
theorem dL_word_2 : decode cL_word 2 = .ok (.aload_n 0, 1) := by decide +kernel
theorem dL_word_3 : decode cL_word 3 = .ok (.iload_n 1, 1) := by decide +kernel
theorem dL_word_4 : decode cL_word 4 = .ok (.invokevirtual 35, 3) := by decide +kernel
theorem dL_word_7 : decode cL_word 7 = .ok (.i2l, 1) := by decide +kernel
theorem dL_word_8 : decode cL_word 8 = .ok (.lastore, 1) := by decide +kernel
theorem dL_word_9 : decode cL_word 9 = .ok (.goto 12, 3) := by decide +kernel
theorem dL_word_12 : decode cL_word 12 = .ok (.astore_n 3, 1) := by decide +kernel
theorem dL_word_13 : decode cL_word 13 = .ok (.iconst 1, 1) := by decide +kernel
theorem dL_word_14 : decode cL_word 14 = .ok (.ireturn, 1) := by decide +kernel
theorem dL_word_15 : decode cL_word 15 = .ok (.astore_n 3, 1) := by decide +kernel
theorem dL_word_16 : decode cL_word 16 = .ok (.iconst 2, 1) := by decide +kernel
theorem dL_word_17 : decode cL_word 17 = .ok (.ireturn, 1) := by decide +kernel
theorem dL_word_18 : decode cL_word 18 = .ok (.astore_n 3, 1) := by decide +kernel
theorem dL_word_19 : decode cL_word 19 = .ok (.iconst 3, 1) := by decide +kernel
theorem dL_word_20 : decode cL_word 20 = .ok (.ireturn, 1) := by decide +kernel
theorem dL_word_21 : decode cL_word 21 = .ok (.iconst 0, 1) := by decide +kernel
theorem dL_word_22 : decode cL_word 22 = .ok (.ireturn, 1) := by decide +kernel
set_option maxRecDepth 20000 in
theorem ggL_impact_X9_impact : GoodIn wsL_impact wsX9_impact := goodIn_ca (goodIn_ca (goodIn_ca (goodIn_r _ [8, 9, 10, 11, 12, 13, 14, 15, 16, 17, 7, 18, 19, 20, 21, 22, 23, 24, 25, 26, 27, 28, 29, 30, 31, 32, 33, 34, 35, 36, 37, 38, 39, 40, 41, 42, 43, 44, 45, 46, 47, 48, 49, 50, 51, 52, 53, 54, 55, 56, 57, 58, 59, 60, 61, 62, 63, 64, 65, 66, 67, 68, 69, 70, 71, 72, 73, 74, 75, 76, 77, 78, 79, 80, 81, 82, 83, 84, 85, 86, 87] (by decide +kernel) (by decide +kernel)) (goodIn_sub (fun _ h => List.mem_cons_of_mem _ (List.mem_append_left _ (List.mem_append_left _ (List.mem_append_right _ h)))) (by decide +kernel))) (goodIn_sub (fun _ h => List.mem_cons_of_mem _ (List.mem_append_left _ (List.mem_append_right _ h))) (by decide +kernel))) (goodIn_sub (fun _ h => List.mem_cons_of_mem _ (List.mem_append_right _ h)) (by decide +kernel))
set_option maxRecDepth 20000 in
theorem gL_impact_X9_impact : GoodIn wsL_impact (wsV RL 39 RX9 yX9_impact wsX9_impact) := goodIn_app (goodIn_of _ (by decide +kernel)) ggL_impact_X9_impact
theorem dL_impact_0 : decode cL_impact 0 = .ok (.aload_n 3, 1) := by decide +kernel
theorem dL_impact_1 : decode cL_impact 1 = .ok (.iconst 0, 1) := by decide +kernel
theorem dL_impact_2 : decode cL_impact 2 = .ok (.aload_n 0, 1) := by decide +kernel
theorem dL_impact_3 : decode cL_impact 3 = .ok (.iload_n 1, 1) := by decide +kernel
theorem dL_impact_4 : decode cL_impact 4 = .ok (.iload_n 2, 1) := by decide +kernel
theorem dL_impact_5 : decode cL_impact 5 = .ok (.invokevirtual 39, 3) := by decide +kernel
theorem dL_impact_8 : decode cL_impact 8 = .ok (.i2l, 1) := by decide +kernel
theorem dL_impact_9 : decode cL_impact 9 = .ok (.lastore, 1) := by decide +kernel
theorem dL_impact_10 : decode cL_impact 10 = .ok (.goto 15, 3) := by decide +kernel
theorem dL_impact_13 : decode cL_impact 13 = .ok (.astore 4, 2) := by decide +kernel
theorem dL_impact_15 : decode cL_impact 15 = .ok (.iconst 1, 1) := by decide +kernel
theorem dL_impact_16 : decode cL_impact 16 = .ok (.ireturn, 1) := by decide +kernel
theorem dL_impact_17 : decode cL_impact 17 = .ok (.astore 4, 2) := by decide +kernel
theorem dL_impact_19 : decode cL_impact 19 = .ok (.iconst 2, 1) := by decide +kernel
theorem dL_impact_20 : decode cL_impact 20 = .ok (.ireturn, 1) := by decide +kernel
theorem dL_impact_21 : decode cL_impact 21 = .ok (.astore 4, 2) := by decide +kernel
theorem dL_impact_23 : decode cL_impact 23 = .ok (.iconst 3, 1) := by decide +kernel
theorem dL_impact_24 : decode cL_impact 24 = .ok (.ireturn, 1) := by decide +kernel
theorem dL_impact_25 : decode cL_impact 25 = .ok (.iconst 0, 1) := by decide +kernel
theorem dL_impact_26 : decode cL_impact 26 = .ok (.ireturn, 1) := by decide +kernel
set_option maxRecDepth 20000 in
theorem ggL_vector_X9_vector : GoodIn wsL_vector wsX9_vector := goodIn_ca (goodIn_ca (goodIn_r _ [7, 8, 9, 10, 11, 12, 13, 14, 6, 15, 16, 17, 18, 19, 20, 21, 22, 23, 24, 25, 26, 27, 28, 29, 30, 31, 32, 33, 34, 35, 36, 37, 38, 39, 40, 41, 42, 43, 44, 45, 46, 47, 48, 49, 50, 51, 52, 53, 54, 55, 56, 57, 58, 59, 60, 61, 62, 63, 64, 65, 66, 67, 68, 69, 70, 71, 72, 73, 74, 75, 76, 77, 78, 79, 80, 81, 82, 83, 84, 85] (by decide +kernel) (by decide +kernel)) (goodIn_sub (fun _ h => List.mem_cons_of_mem _ (List.mem_append_left _ (List.mem_append_right _ h))) (by decide +kernel))) (goodIn_sub (fun _ h => List.mem_cons_of_mem _ (List.mem_append_right _ h)) (by decide +kernel))
set_option maxRecDepth 20000 in
theorem gL_vector_X9_vector : GoodIn wsL_vector (wsV RL 42 RX9 yX9_vector wsX9_vector) := goodIn_app (goodIn_of _ (by decide +kernel)) ggL_vector_X9_vector
theorem dL_vector_0 : decode cL_vector 0 = .ok (.aload 5, 2) := by decide +kernel
theorem dL_vector_2 : decode cL_vector 2 = .ok (.iconst 0, 1) := by decide +kernel
theorem dL_vector_3 : decode cL_vector 3 = .ok (.aload_n 0, 1) := by decide +kernel
theorem dL_vector_4 : decode cL_vector 4 = .ok (.fload_n 1, 1) := by decide +kernel
theorem dL_vector_5 : decode cL_vector 5 = .ok (.fload_n 2, 1) := by decide +kernel
theorem dL_vector_6 : decode cL_vector 6 = .ok (.fload_n 3, 1) := by decide +kernel
theorem dL_vector_7 : decode cL_vector 7 = .ok (.fload 4, 2) := by decide +kernel
theorem dL_vector_9 : decode cL_vector 9 = .ok (.invokevirtual 42, 3) := by decide +kernel
theorem dL_vector_12 : decode cL_vector 12 = .ok (.i2l, 1) := by decide +kernel
theorem dL_vector_13 : decode cL_vector 13 = .ok (.lastore, 1) := by decide +kernel
theorem dL_vector_14 : decode cL_vector 14 = .ok (.goto 11, 3) := by decide +kernel
theorem dL_vector_17 : decode cL_vector 17 = .ok (.astore 6, 2) := by decide +kernel
theorem dL_vector_19 : decode cL_vector 19 = .ok (.iconst 1, 1) := by decide +kernel
theorem dL_vector_20 : decode cL_vector 20 = .ok (.ireturn, 1) := by decide +kernel
theorem dL_vector_21 : decode cL_vector 21 = .ok (.astore 6, 2) := by decide +kernel
theorem dL_vector_23 : decode cL_vector 23 = .ok (.iconst 2, 1) := by decide +kernel
theorem dL_vector_24 : decode cL_vector 24 = .ok (.ireturn, 1) := by decide +kernel
theorem dL_vector_25 : decode cL_vector 25 = .ok (.iconst 0, 1) := by decide +kernel
theorem dL_vector_26 : decode cL_vector 26 = .ok (.ireturn, 1) := by decide +kernel
set_option maxRecDepth 20000 in
theorem ggL_search_X9_search : GoodIn wsL_search wsX9_search := goodIn_ca (goodIn_ca (goodIn_r _ [7, 8, 9, 10, 11, 12, 13, 14, 15, 6, 16, 17, 18, 19, 20, 21, 22, 23, 24, 25, 26, 27, 28, 29, 30, 31, 32, 33, 34, 35, 36, 37, 38, 39, 40, 41, 42, 43, 44, 45, 46, 47, 48, 49, 50, 51, 52, 53, 54, 55, 56, 57, 58, 59, 60, 61, 62, 63, 64, 65, 66, 67, 68, 69, 70, 71, 72, 73, 74, 75, 76, 77, 78, 79, 80, 81, 82, 83, 84, 85, 86, 87, 88, 89, 90, 91, 92, 93, 94, 95, 96, 97, 98, 99, 100, 101, 102, 103, 104, 105, 106, 107, 108, 109, 110, 111, 112, 113, 114, 115, 116, 117, 118, 119, 120, 121, 122, 123, 124, 125, 126, 127, 128, 129, 130, 131, 132, 133, 134, 135, 136, 137, 138, 139, 140, 141, 142, 143, 144, 145, 146, 147, 148, 149, 150, 151, 152, 153, 154, 155, 156, 157, 158, 159, 160, 161, 162, 163, 164, 165, 166, 167, 168, 169, 170, 171, 172, 173, 174, 175, 176, 177, 178, 179, 180, 181, 182, 183, 184, 185, 186, 187, 188, 189, 190, 191, 192, 193, 194, 195, 196, 197, 198, 199, 200, 201, 202, 203, 204, 205, 206, 207, 208, 209, 210, 211, 212, 213, 214, 215, 216, 217, 218, 219, 220, 221, 222, 223, 224, 225, 226, 227, 228, 229, 230, 231, 232, 233, 234, 235, 236, 237, 238, 239, 240, 241, 242, 243, 244, 245, 246, 247, 248, 249, 250, 251, 252, 253, 254, 255, 256, 257, 258, 259, 260, 261, 262, 263, 264, 265, 266, 267, 268, 269, 270, 271, 272, 273, 274, 275, 276, 277, 278, 279, 280, 281, 282, 283, 284, 285, 286, 287, 288, 289, 290, 291, 292, 293, 294, 295, 296, 297, 298, 299, 300, 301, 302, 303, 304, 305, 306, 307, 308, 309, 310, 311, 312, 313, 314, 315, 316, 317, 318, 319, 320] (by decide +kernel) (by decide +kernel)) (goodIn_sub (fun _ h => List.mem_cons_of_mem _ (List.mem_append_left _ (List.mem_append_right _ h))) (by decide +kernel))) (goodIn_sub (fun _ h => List.mem_cons_of_mem _ (List.mem_append_right _ h)) (by decide +kernel))
set_option maxRecDepth 20000 in
theorem gL_search_X9_search : GoodIn wsL_search (wsV RL 45 RX9 yX9_search wsX9_search) := goodIn_app (goodIn_of _ (by decide +kernel)) ggL_search_X9_search
theorem dL_search_0 : decode cL_search 0 = .ok (.aload 5, 2) := by decide +kernel
theorem dL_search_2 : decode cL_search 2 = .ok (.iconst 0, 1) := by decide +kernel
theorem dL_search_3 : decode cL_search 3 = .ok (.aload_n 0, 1) := by decide +kernel
theorem dL_search_4 : decode cL_search 4 = .ok (.iload_n 1, 1) := by decide +kernel
theorem dL_search_5 : decode cL_search 5 = .ok (.iload_n 2, 1) := by decide +kernel
theorem dL_search_6 : decode cL_search 6 = .ok (.iload_n 3, 1) := by decide +kernel
theorem dL_search_7 : decode cL_search 7 = .ok (.iload 4, 2) := by decide +kernel
theorem dL_search_9 : decode cL_search 9 = .ok (.invokevirtual 45, 3) := by decide +kernel
theorem dL_search_12 : decode cL_search 12 = .ok (.i2l, 1) := by decide +kernel
theorem dL_search_13 : decode cL_search 13 = .ok (.lastore, 1) := by decide +kernel
theorem dL_search_14 : decode cL_search 14 = .ok (.goto 11, 3) := by decide +kernel
theorem dL_search_17 : decode cL_search 17 = .ok (.astore 6, 2) := by decide +kernel
theorem dL_search_19 : decode cL_search 19 = .ok (.iconst 1, 1) := by decide +kernel
theorem dL_search_20 : decode cL_search 20 = .ok (.ireturn, 1) := by decide +kernel
theorem dL_search_21 : decode cL_search 21 = .ok (.astore 6, 2) := by decide +kernel
theorem dL_search_23 : decode cL_search 23 = .ok (.iconst 2, 1) := by decide +kernel
theorem dL_search_24 : decode cL_search 24 = .ok (.ireturn, 1) := by decide +kernel
theorem dL_search_25 : decode cL_search 25 = .ok (.iconst 0, 1) := by decide +kernel
theorem dL_search_26 : decode cL_search 26 = .ok (.ireturn, 1) := by decide +kernel
set_option maxRecDepth 20000 in
theorem ggL_hit_X9_hit : GoodIn wsL_hit wsX9_hit := goodIn_ca (goodIn_ca (goodIn_ca (goodIn_r _ [8, 9, 10, 11, 7, 12, 13, 14, 15, 16, 17, 18, 19, 20, 21, 22, 23, 24, 25, 26, 27, 28, 29, 30, 31, 32, 33, 34, 35, 36, 37, 38, 39, 40, 41, 42, 43, 44, 45, 46, 47, 48, 49, 50, 51, 52, 53, 54, 55, 56, 57, 58, 59, 60, 61, 62, 63, 64, 65, 66] (by decide +kernel) (by decide +kernel)) (goodIn_sub (fun _ h => List.mem_cons_of_mem _ (List.mem_append_left _ (List.mem_append_left _ (List.mem_append_right _ h)))) (by decide +kernel))) (goodIn_sub (fun _ h => List.mem_cons_of_mem _ (List.mem_append_left _ (List.mem_append_right _ h))) (by decide +kernel))) (goodIn_sub (fun _ h => List.mem_cons_of_mem _ (List.mem_append_right _ h)) (by decide +kernel))
set_option maxRecDepth 20000 in
theorem gL_hit_X9_hit : GoodIn wsL_hit (wsV RL 49 RX9 yX9_hit wsX9_hit) := goodIn_app (goodIn_of _ (by decide +kernel)) ggL_hit_X9_hit
theorem dL_hit_0 : decode cL_hit 0 = .ok (.aload_n 3, 1) := by decide +kernel
theorem dL_hit_1 : decode cL_hit 1 = .ok (.iconst 0, 1) := by decide +kernel
theorem dL_hit_2 : decode cL_hit 2 = .ok (.aload_n 0, 1) := by decide +kernel
theorem dL_hit_3 : decode cL_hit 3 = .ok (.iload_n 1, 1) := by decide +kernel
theorem dL_hit_4 : decode cL_hit 4 = .ok (.iload_n 2, 1) := by decide +kernel
theorem dL_hit_5 : decode cL_hit 5 = .ok (.invokevirtual 49, 3) := by decide +kernel
theorem dL_hit_8 : decode cL_hit 8 = .ok (.i2l, 1) := by decide +kernel
theorem dL_hit_9 : decode cL_hit 9 = .ok (.lastore, 1) := by decide +kernel
theorem dL_hit_10 : decode cL_hit 10 = .ok (.goto 15, 3) := by decide +kernel
theorem dL_hit_13 : decode cL_hit 13 = .ok (.astore 4, 2) := by decide +kernel
theorem dL_hit_15 : decode cL_hit 15 = .ok (.iconst 1, 1) := by decide +kernel
theorem dL_hit_16 : decode cL_hit 16 = .ok (.ireturn, 1) := by decide +kernel
theorem dL_hit_17 : decode cL_hit 17 = .ok (.astore 4, 2) := by decide +kernel
theorem dL_hit_19 : decode cL_hit 19 = .ok (.iconst 2, 1) := by decide +kernel
theorem dL_hit_20 : decode cL_hit 20 = .ok (.ireturn, 1) := by decide +kernel
theorem dL_hit_21 : decode cL_hit 21 = .ok (.astore 4, 2) := by decide +kernel
theorem dL_hit_23 : decode cL_hit 23 = .ok (.iconst 3, 1) := by decide +kernel
theorem dL_hit_24 : decode cL_hit 24 = .ok (.ireturn, 1) := by decide +kernel
theorem dL_hit_25 : decode cL_hit 25 = .ok (.iconst 0, 1) := by decide +kernel
theorem dL_hit_26 : decode cL_hit 26 = .ok (.ireturn, 1) := by decide +kernel
set_option maxRecDepth 20000 in
theorem ggL_score_X9_score : GoodIn wsL_score wsX9_score := goodIn_ca (goodIn_ca (goodIn_ca (goodIn_r _ [8, 9, 10, 11, 7, 12, 13, 14, 15, 16, 17, 18, 19, 20, 21, 22, 23, 24, 25, 26, 27, 28, 29, 30, 31, 32, 33, 34, 35, 36, 37, 38, 39, 40, 41, 42, 43, 44, 45, 46, 47, 48, 49, 50, 51, 52, 53, 54, 55, 56, 57, 58, 59, 60, 61, 62, 63, 64, 65, 66] (by decide +kernel) (by decide +kernel)) (goodIn_sub (fun _ h => List.mem_cons_of_mem _ (List.mem_append_left _ (List.mem_append_left _ (List.mem_append_right _ h)))) (by decide +kernel))) (goodIn_sub (fun _ h => List.mem_cons_of_mem _ (List.mem_append_left _ (List.mem_append_right _ h))) (by decide +kernel))) (goodIn_sub (fun _ h => List.mem_cons_of_mem _ (List.mem_append_right _ h)) (by decide +kernel))
set_option maxRecDepth 20000 in
theorem gL_score_X9_score : GoodIn wsL_score (wsV RL 54 RX9 yX9_score wsX9_score) := goodIn_app (goodIn_of _ (by decide +kernel)) ggL_score_X9_score
theorem dL_score_0 : decode cL_score 0 = .ok (.aload_n 3, 1) := by decide +kernel
theorem dL_score_1 : decode cL_score 1 = .ok (.iconst 0, 1) := by decide +kernel
theorem dL_score_2 : decode cL_score 2 = .ok (.aload_n 0, 1) := by decide +kernel
theorem dL_score_3 : decode cL_score 3 = .ok (.iload_n 1, 1) := by decide +kernel
theorem dL_score_4 : decode cL_score 4 = .ok (.iload_n 2, 1) := by decide +kernel
theorem dL_score_5 : decode cL_score 5 = .ok (.invokevirtual 54, 3) := by decide +kernel
theorem dL_score_8 : decode cL_score 8 = .ok (.dastore, 1) := by decide +kernel
theorem dL_score_9 : decode cL_score 9 = .ok (.goto 15, 3) := by decide +kernel
theorem dL_score_12 : decode cL_score 12 = .ok (.astore 4, 2) := by decide +kernel
theorem dL_score_14 : decode cL_score 14 = .ok (.iconst 1, 1) := by decide +kernel
theorem dL_score_15 : decode cL_score 15 = .ok (.ireturn, 1) := by decide +kernel
theorem dL_score_16 : decode cL_score 16 = .ok (.astore 4, 2) := by decide +kernel
theorem dL_score_18 : decode cL_score 18 = .ok (.iconst 2, 1) := by decide +kernel
theorem dL_score_19 : decode cL_score 19 = .ok (.ireturn, 1) := by decide +kernel
theorem dL_score_20 : decode cL_score 20 = .ok (.astore 4, 2) := by decide +kernel
theorem dL_score_22 : decode cL_score 22 = .ok (.iconst 3, 1) := by decide +kernel
theorem dL_score_23 : decode cL_score 23 = .ok (.ireturn, 1) := by decide +kernel
theorem dL_score_24 : decode cL_score 24 = .ok (.iconst 0, 1) := by decide +kernel
theorem dL_score_25 : decode cL_score 25 = .ok (.ireturn, 1) := by decide +kernel
set_option maxRecDepth 20000 in
theorem ggL_work_X9_work : GoodIn wsL_work wsX9_work := goodIn_ca (goodIn_ca (goodIn_r _ [7, 8, 9, 10, 11, 12, 6, 13, 14, 15, 16, 17, 18, 19, 20, 21, 22, 23, 24, 25, 26, 27, 28, 29, 30, 31, 32, 33, 34, 35, 36, 37, 38, 39, 40, 41, 42, 43, 44, 45, 46, 47, 48, 49, 50, 51, 52, 53, 54] (by decide +kernel) (by decide +kernel)) (goodIn_sub (fun _ h => List.mem_cons_of_mem _ (List.mem_append_left _ (List.mem_append_right _ h))) (by decide +kernel))) (goodIn_sub (fun _ h => List.mem_cons_of_mem _ (List.mem_append_right _ h)) (by decide +kernel))
set_option maxRecDepth 20000 in
theorem gL_work_X9_work : GoodIn wsL_work (wsV RL 58 RX9 yX9_work wsX9_work) := goodIn_app (goodIn_of _ (by decide +kernel)) ggL_work_X9_work
theorem dL_work_0 : decode cL_work 0 = .ok (.aload_n 3, 1) := by decide +kernel
theorem dL_work_1 : decode cL_work 1 = .ok (.iconst 0, 1) := by decide +kernel
theorem dL_work_2 : decode cL_work 2 = .ok (.aload_n 0, 1) := by decide +kernel
theorem dL_work_3 : decode cL_work 3 = .ok (.iload_n 1, 1) := by decide +kernel
theorem dL_work_4 : decode cL_work 4 = .ok (.iload_n 2, 1) := by decide +kernel
theorem dL_work_5 : decode cL_work 5 = .ok (.invokevirtual 58, 3) := by decide +kernel
theorem dL_work_8 : decode cL_work 8 = .ok (.i2l, 1) := by decide +kernel
theorem dL_work_9 : decode cL_work 9 = .ok (.lastore, 1) := by decide +kernel
theorem dL_work_10 : decode cL_work 10 = .ok (.goto 11, 3) := by decide +kernel
theorem dL_work_13 : decode cL_work 13 = .ok (.astore 4, 2) := by decide +kernel
theorem dL_work_15 : decode cL_work 15 = .ok (.iconst 1, 1) := by decide +kernel
theorem dL_work_16 : decode cL_work 16 = .ok (.ireturn, 1) := by decide +kernel
theorem dL_work_17 : decode cL_work 17 = .ok (.astore 4, 2) := by decide +kernel
theorem dL_work_19 : decode cL_work 19 = .ok (.iconst 2, 1) := by decide +kernel
theorem dL_work_20 : decode cL_work 20 = .ok (.ireturn, 1) := by decide +kernel
theorem dL_work_21 : decode cL_work 21 = .ok (.iconst 0, 1) := by decide +kernel
theorem dL_work_22 : decode cL_work 22 = .ok (.ireturn, 1) := by decide +kernel
set_option maxRecDepth 20000 in
theorem ggL_fuse_X9_fuse : GoodIn wsL_fuse wsX9_fuse := goodIn_ca (goodIn_ca (goodIn_r _ [7, 8, 9, 10, 11, 12, 13, 14, 15, 16, 6, 17, 18, 19, 20, 21, 22, 23, 24, 25, 26, 27, 28, 29, 30, 31, 32, 33, 34, 35, 36, 37, 38, 39, 40, 41, 42, 43, 44, 45, 46, 47, 48, 49, 50, 51, 52, 53, 54, 55, 56, 57, 58, 59, 60, 61, 62, 63, 64, 65, 66, 67, 68, 69, 70, 71, 72, 73, 74, 75, 76, 77, 78, 79, 80, 81, 82, 83, 84, 85, 86, 87, 88, 89, 90, 91, 92, 93, 94, 95, 96, 97, 98] (by decide +kernel) (by decide +kernel)) (goodIn_sub (fun _ h => List.mem_cons_of_mem _ (List.mem_append_left _ (List.mem_append_right _ h))) (by decide +kernel))) (goodIn_sub (fun _ h => List.mem_cons_of_mem _ (List.mem_append_right _ h)) (by decide +kernel))
set_option maxRecDepth 20000 in
theorem gL_fuse_X9_fuse : GoodIn wsL_fuse (wsV RL 61 RX9 yX9_fuse wsX9_fuse) := goodIn_app (goodIn_of _ (by decide +kernel)) ggL_fuse_X9_fuse
theorem dL_fuse_0 : decode cL_fuse 0 = .ok (.aload_n 2, 1) := by decide +kernel
theorem dL_fuse_1 : decode cL_fuse 1 = .ok (.iconst 0, 1) := by decide +kernel
theorem dL_fuse_2 : decode cL_fuse 2 = .ok (.aload_n 0, 1) := by decide +kernel
theorem dL_fuse_3 : decode cL_fuse 3 = .ok (.iload_n 1, 1) := by decide +kernel
theorem dL_fuse_4 : decode cL_fuse 4 = .ok (.invokevirtual 61, 3) := by decide +kernel
theorem dL_fuse_7 : decode cL_fuse 7 = .ok (.i2l, 1) := by decide +kernel
theorem dL_fuse_8 : decode cL_fuse 8 = .ok (.lastore, 1) := by decide +kernel
theorem dL_fuse_9 : decode cL_fuse 9 = .ok (.goto 9, 3) := by decide +kernel
theorem dL_fuse_12 : decode cL_fuse 12 = .ok (.astore_n 3, 1) := by decide +kernel
theorem dL_fuse_13 : decode cL_fuse 13 = .ok (.iconst 1, 1) := by decide +kernel
theorem dL_fuse_14 : decode cL_fuse 14 = .ok (.ireturn, 1) := by decide +kernel
theorem dL_fuse_15 : decode cL_fuse 15 = .ok (.astore_n 3, 1) := by decide +kernel
theorem dL_fuse_16 : decode cL_fuse 16 = .ok (.iconst 2, 1) := by decide +kernel
theorem dL_fuse_17 : decode cL_fuse 17 = .ok (.ireturn, 1) := by decide +kernel
theorem dL_fuse_18 : decode cL_fuse 18 = .ok (.iconst 0, 1) := by decide +kernel
theorem dL_fuse_19 : decode cL_fuse 19 = .ok (.ireturn, 1) := by decide +kernel
set_option maxRecDepth 20000 in
theorem ggL_fused_X9_fused : GoodIn wsL_fused wsX9_fused := goodIn_ca (goodIn_r _ [6, 7, 8, 9, 10, 11, 12, 13, 14, 15, 16, 17, 18, 19, 20, 21, 22, 23, 24, 25, 26, 27, 28, 29, 30, 31, 32, 33, 34, 35, 36, 37, 38, 39, 40, 41, 42] (by decide +kernel) (by decide +kernel)) (goodIn_sub (fun _ h => List.mem_cons_of_mem _ (List.mem_append_right _ h)) (by decide +kernel))
set_option maxRecDepth 20000 in
theorem gL_fused_X9_fused : GoodIn wsL_fused (wsV RL 64 RX9 yX9_fused wsX9_fused) := goodIn_app (goodIn_of _ (by decide +kernel)) ggL_fused_X9_fused
theorem dL_fused_0 : decode cL_fused 0 = .ok (.aload_n 2, 1) := by decide +kernel
theorem dL_fused_1 : decode cL_fused 1 = .ok (.iconst 0, 1) := by decide +kernel
theorem dL_fused_2 : decode cL_fused 2 = .ok (.aload_n 0, 1) := by decide +kernel
theorem dL_fused_3 : decode cL_fused 3 = .ok (.iload_n 1, 1) := by decide +kernel
theorem dL_fused_4 : decode cL_fused 4 = .ok (.invokevirtual 64, 3) := by decide +kernel
theorem dL_fused_7 : decode cL_fused 7 = .ok (.i2l, 1) := by decide +kernel
theorem dL_fused_8 : decode cL_fused 8 = .ok (.lastore, 1) := by decide +kernel
theorem dL_fused_9 : decode cL_fused 9 = .ok (.goto 6, 3) := by decide +kernel
theorem dL_fused_12 : decode cL_fused 12 = .ok (.astore_n 3, 1) := by decide +kernel
theorem dL_fused_13 : decode cL_fused 13 = .ok (.iconst 1, 1) := by decide +kernel
theorem dL_fused_14 : decode cL_fused 14 = .ok (.ireturn, 1) := by decide +kernel
theorem dL_fused_15 : decode cL_fused 15 = .ok (.iconst 0, 1) := by decide +kernel
theorem dL_fused_16 : decode cL_fused 16 = .ok (.ireturn, 1) := by decide +kernel
set_option maxRecDepth 20000 in
theorem ggL_rating_X9_rating : GoodIn wsL_rating wsX9_rating := goodIn_ca (goodIn_r _ [6, 7, 8, 9, 10, 11, 12, 13, 14, 15, 16, 17, 18, 19, 20, 21, 22, 23, 24, 25, 26, 27, 28, 29, 30, 31, 32, 33, 34, 35, 36, 37, 38, 39, 40, 41, 42] (by decide +kernel) (by decide +kernel)) (goodIn_sub (fun _ h => List.mem_cons_of_mem _ (List.mem_append_right _ h)) (by decide +kernel))
set_option maxRecDepth 20000 in
theorem gL_rating_X9_rating : GoodIn wsL_rating (wsV RL 67 RX9 yX9_rating wsX9_rating) := goodIn_app (goodIn_of _ (by decide +kernel)) ggL_rating_X9_rating
theorem dL_rating_0 : decode cL_rating 0 = .ok (.aload_n 2, 1) := by decide +kernel
theorem dL_rating_1 : decode cL_rating 1 = .ok (.iconst 0, 1) := by decide +kernel
theorem dL_rating_2 : decode cL_rating 2 = .ok (.aload_n 0, 1) := by decide +kernel
theorem dL_rating_3 : decode cL_rating 3 = .ok (.iload_n 1, 1) := by decide +kernel
theorem dL_rating_4 : decode cL_rating 4 = .ok (.invokevirtual 67, 3) := by decide +kernel
theorem dL_rating_7 : decode cL_rating 7 = .ok (.dastore, 1) := by decide +kernel
theorem dL_rating_8 : decode cL_rating 8 = .ok (.goto 6, 3) := by decide +kernel
theorem dL_rating_11 : decode cL_rating 11 = .ok (.astore_n 3, 1) := by decide +kernel
theorem dL_rating_12 : decode cL_rating 12 = .ok (.iconst 1, 1) := by decide +kernel
theorem dL_rating_13 : decode cL_rating 13 = .ok (.ireturn, 1) := by decide +kernel
theorem dL_rating_14 : decode cL_rating 14 = .ok (.iconst 0, 1) := by decide +kernel
theorem dL_rating_15 : decode cL_rating 15 = .ok (.ireturn, 1) := by decide +kernel
set_option maxRecDepth 20000 in
theorem ggL_quantised_X9_quantised : GoodIn wsL_quantised wsX9_quantised := goodIn_ca (goodIn_r _ [6, 7, 8, 9, 10, 11, 12, 13, 14, 15, 16, 17, 5, 18, 19, 20, 21, 22, 23, 24, 25, 26, 27, 28, 29, 30, 31, 32, 33, 34, 35, 36, 37, 38, 39, 40, 41, 42, 43, 44, 45, 46] (by decide +kernel) (by decide +kernel)) (goodIn_sub (fun _ h => List.mem_cons_of_mem _ (List.mem_append_right _ h)) (by decide +kernel))
set_option maxRecDepth 20000 in
theorem gL_quantised_X9_quantised : GoodIn wsL_quantised (wsV RL 71 RX9 yX9_quantised wsX9_quantised) := goodIn_app (goodIn_of _ (by decide +kernel)) ggL_quantised_X9_quantised
theorem dL_quantised_0 : decode cL_quantised 0 = .ok (.aload_n 3, 1) := by decide +kernel
theorem dL_quantised_1 : decode cL_quantised 1 = .ok (.iconst 0, 1) := by decide +kernel
theorem dL_quantised_2 : decode cL_quantised 2 = .ok (.aload_n 0, 1) := by decide +kernel
theorem dL_quantised_3 : decode cL_quantised 3 = .ok (.iload_n 1, 1) := by decide +kernel
theorem dL_quantised_4 : decode cL_quantised 4 = .ok (.iload_n 2, 1) := by decide +kernel
theorem dL_quantised_5 : decode cL_quantised 5 = .ok (.invokevirtual 71, 3) := by decide +kernel
theorem dL_quantised_8 : decode cL_quantised 8 = .ok (.i2l, 1) := by decide +kernel
theorem dL_quantised_9 : decode cL_quantised 9 = .ok (.lastore, 1) := by decide +kernel
theorem dL_quantised_10 : decode cL_quantised 10 = .ok (.goto 7, 3) := by decide +kernel
theorem dL_quantised_13 : decode cL_quantised 13 = .ok (.astore 4, 2) := by decide +kernel
theorem dL_quantised_15 : decode cL_quantised 15 = .ok (.iconst 1, 1) := by decide +kernel
theorem dL_quantised_16 : decode cL_quantised 16 = .ok (.ireturn, 1) := by decide +kernel
theorem dL_quantised_17 : decode cL_quantised 17 = .ok (.iconst 0, 1) := by decide +kernel
theorem dL_quantised_18 : decode cL_quantised 18 = .ok (.ireturn, 1) := by decide +kernel
set_option maxRecDepth 20000 in
theorem ggL_law_X9_init : GoodIn wsL_law wsX9_init := goodIn_r _ [12, 13, 14, 15, 16, 17, 18, 19, 20, 21, 22, 23, 24, 25, 26, 27, 28, 29, 30, 31, 32, 33, 34, 35, 36, 37, 38, 39, 40, 41, 42, 43, 44, 45, 46, 47, 48, 49, 50, 51, 52, 53, 54, 55, 56, 57, 58, 59, 60, 61, 62, 63, 64, 65, 66, 67, 68, 69, 70, 71, 72, 73, 74, 75, 76, 77, 78, 79, 80, 81, 7, 82, 83, 84, 85, 86, 87, 88, 89, 90, 91, 92, 93, 94, 95, 96, 97, 98, 99, 100, 101, 102, 103, 104, 105, 106, 107, 108, 109, 110, 111, 894, 895, 896, 897, 898, 899, 853, 854, 855, 856, 857, 858, 859, 860, 861, 900, 901, 902, 903, 904, 905, 906, 907, 908, 909, 910, 911, 912, 913, 914, 915, 916, 917, 918, 919, 920, 921, 922, 923, 924] (by decide +kernel) (by decide +kernel)
set_option maxRecDepth 20000 in
theorem gL_law_X9_init : GoodIn wsL_law (wsX9_init) := ggL_law_X9_init
set_option maxRecDepth 20000 in
theorem ggL_law_X10_init : GoodIn wsL_law wsX10_init := goodIn_r _ [114, 115, 14, 15, 54, 116, 58, 117, 118, 119, 120, 121, 122, 123, 124, 91, 125, 126, 127, 7, 128, 129, 130, 131, 132, 133, 134, 135, 862, 863, 864, 865, 866, 867, 868, 869, 870, 871, 872, 873, 874, 875, 876, 877, 878, 879, 880, 881, 882, 883, 884, 885, 886, 887, 888, 889, 890, 891, 892, 893] (by decide +kernel) (by decide +kernel)
set_option maxRecDepth 20000 in
theorem gL_law_X10_init : GoodIn wsL_law (wsX10_init) := ggL_law_X10_init
set_option maxRecDepth 20000 in
theorem ggL_law_L_document : GoodIn wsL_law wsL_document := goodIn_ca (goodIn_r _ [139, 140, 141, 142, 143, 2, 144, 145, 146, 19, 147, 148, 149, 18, 150, 151, 152, 153, 154, 155, 156, 157, 158, 159, 42, 48, 160, 161, 162, 44, 163, 164, 165, 166, 167, 47, 168, 109, 169, 170, 171, 39, 172, 173, 174, 69, 175, 176, 177, 178, 179, 180, 181, 853, 854, 855, 856, 857, 858, 859, 860, 861, 894, 895, 896, 897, 898, 899, 917, 918, 919, 920, 921, 922, 923, 924, 913, 914, 915, 916] (by decide +kernel) (by decide +kernel)) (goodIn_sub (fun _ h => List.mem_append_left _ (List.mem_append_left _ (List.mem_append_left _ (List.mem_append_right _ h)))) (by decide +kernel))
set_option maxRecDepth 20000 in
theorem gL_law_L_document : GoodIn wsL_law (va_wsS RL 78 yL_document wsL_document) := goodIn_app (goodIn_of _ (by decide +kernel)) ggL_law_L_document
set_option maxRecDepth 20000 in
theorem ggL_law_X10_document : GoodIn wsL_law wsX10_document := goodIn_r _ [185, 186, 187, 188, 189, 190, 5, 191, 192, 193, 194, 195, 196, 125, 862, 863, 864, 865, 866, 867, 868, 869, 870, 871, 872, 873, 874, 875, 876, 877, 878, 879, 880, 881, 882, 883, 884, 885, 886, 887, 888, 889, 890, 891, 892, 893] (by decide +kernel) (by decide +kernel)
set_option maxRecDepth 20000 in
theorem gL_law_X10_document : GoodIn wsL_law (wsV RL 83 RX10 yX10_document wsX10_document) := goodIn_app (goodIn_of _ (by decide +kernel)) ggL_law_X10_document
set_option maxRecDepth 20000 in
theorem ggL_law_X10_thrown : GoodIn wsL_law wsX10_thrown := goodIn_r _ [200, 187, 862, 863, 864, 865, 866, 867, 868, 869, 870, 871, 872, 873, 874, 875, 876, 877, 878, 879, 880, 881, 882, 883, 884, 885, 886, 887, 888, 889, 890, 891, 892, 893] (by decide +kernel) (by decide +kernel)
set_option maxRecDepth 20000 in
theorem gL_law_X10_thrown : GoodIn wsL_law (wsV RL 84 RX10 yX10_thrown wsX10_thrown) := goodIn_app (goodIn_of _ (by decide +kernel)) ggL_law_X10_thrown
set_option maxRecDepth 20000 in
theorem ggL_law_L_count : GoodIn wsL_law wsL_count := goodIn_ca (goodIn_ca (goodIn_r _ [203, 204, 140, 205, 206, 207, 2, 208, 209, 210, 145, 146, 19, 211, 212, 213, 18, 214, 151, 215, 216, 217, 218, 219, 220, 221, 55, 152, 153, 154, 155, 156, 157, 158, 159, 42, 48, 160, 161, 162, 44, 163, 164, 165, 166, 167, 47, 168, 109, 169, 170, 171, 39, 172, 173, 174, 69, 175, 176, 177, 222, 223, 224, 225, 56, 853, 854, 855, 856, 857, 858, 859, 860, 861, 894, 895, 896, 897, 898, 899, 917, 918, 919, 920, 921, 922, 923, 924, 913, 914, 915, 916] (by decide +kernel) (by decide +kernel)) (goodIn_sub (fun _ h => List.mem_append_left _ (List.mem_append_left _ (List.mem_append_right _ h))) (by decide +kernel))) (goodIn_sub (fun _ h => List.mem_append_left _ (List.mem_append_left _ (List.mem_append_left _ (List.mem_append_right _ h)))) (by decide +kernel))
set_option maxRecDepth 20000 in
theorem gL_law_L_count : GoodIn wsL_law (va_wsS RL 87 yL_count wsL_count) := goodIn_app (goodIn_of _ (by decide +kernel)) ggL_law_L_count
set_option maxRecDepth 20000 in
theorem ggL_law_X10_count : GoodIn wsL_law wsX10_count := goodIn_r _ [229, 186, 116, 187, 230, 231, 5, 232, 188, 189, 190, 191, 192, 193, 194, 195, 196, 125, 862, 863, 864, 865, 866, 867, 868, 869, 870, 871, 872, 873, 874, 875, 876, 877, 878, 879, 880, 881, 882, 883, 884, 885, 886, 887, 888, 889, 890, 891, 892, 893] (by decide +kernel) (by decide +kernel)
set_option maxRecDepth 20000 in
theorem gL_law_X10_count : GoodIn wsL_law (wsV RL 90 RX10 yX10_count wsX10_count) := goodIn_app (goodIn_of _ (by decide +kernel)) ggL_law_X10_count
set_option maxRecDepth 20000 in
theorem ggL_law_L_weigh : GoodIn wsL_law wsL_weigh := goodIn_ca (goodIn_ca (goodIn_r _ [235, 204, 236, 237, 238, 239, 2, 240, 209, 210, 241, 242, 19, 211, 212, 213, 18, 214, 151, 215, 216, 217, 243, 244, 245, 246, 247, 152, 153, 154, 155, 156, 157, 158, 159, 42, 48, 160, 161, 162, 44, 163, 164, 165, 166, 167, 47, 168, 109, 169, 170, 171, 39, 172, 173, 174, 69, 175, 176, 177, 248, 249, 250, 251, 59, 853, 854, 855, 856, 857, 858, 859, 860, 861, 894, 895, 896, 897, 898, 899, 917, 918, 919, 920, 921, 922, 923, 924, 913, 914, 915, 916] (by decide +kernel) (by decide +kernel)) (goodIn_sub (fun _ h => List.mem_append_left _ (List.mem_append_left _ (List.mem_append_right _ h))) (by decide +kernel))) (goodIn_sub (fun _ h => List.mem_append_left _ (List.mem_append_right _ h)) (by decide +kernel))
set_option maxRecDepth 20000 in
theorem gL_law_L_weigh : GoodIn wsL_law (va_wsS RL 92 yL_weigh wsL_weigh) := goodIn_app (goodIn_of _ (by decide +kernel)) ggL_law_L_weigh
set_option maxRecDepth 20000 in
theorem ggL_law_X10_weigh : GoodIn wsL_law wsX10_weigh := goodIn_r _ [255, 186, 187, 117, 230, 231, 5, 232, 256, 257, 258, 259, 260, 188, 189, 190, 191, 192, 193, 194, 195, 196, 125, 862, 863, 864, 865, 866, 867, 868, 869, 870, 871, 872, 873, 874, 875, 876, 877, 878, 879, 880, 881, 882, 883, 884, 885, 886, 887, 888, 889, 890, 891, 892, 893] (by decide +kernel) (by decide +kernel)
set_option maxRecDepth 20000 in
theorem gL_law_X10_weigh : GoodIn wsL_law (wsV RL 95 RX10 yX10_weigh wsX10_weigh) := goodIn_app (goodIn_of _ (by decide +kernel)) ggL_law_X10_weigh
set_option maxRecDepth 20000 in
theorem ggL_law_L_token : GoodIn wsL_law wsL_token := goodIn_ca (goodIn_ca (goodIn_ca (goodIn_r _ [263, 204, 236, 140, 264, 265, 266, 2, 267, 209, 210, 241, 242, 145, 146, 19, 211, 212, 213, 18, 214, 151, 268, 269, 270, 243, 244, 245, 246, 247, 271, 272, 273, 274, 61, 275, 276, 277, 27, 278, 279, 71, 152, 153, 154, 155, 156, 157, 158, 159, 42, 48, 160, 161, 162, 44, 163, 164, 165, 166, 167, 47, 168, 109, 169, 170, 171, 39, 172, 173, 174, 69, 175, 176, 177, 280, 281, 282, 283, 72, 853, 854, 855, 856, 857, 858, 859, 860, 861, 894, 895, 896, 897, 898, 899, 903, 904, 905, 917, 918, 919, 920, 921, 922, 923, 924, 913, 914, 915, 916] (by decide +kernel) (by decide +kernel)) (goodIn_sub (fun _ h => List.mem_append_left _ (List.mem_append_left _ (List.mem_append_right _ h))) (by decide +kernel))) (goodIn_sub (fun _ h => List.mem_append_left _ (List.mem_append_right _ h)) (by decide +kernel))) (goodIn_sub (fun _ h => List.mem_append_left _ (List.mem_append_left _ (List.mem_append_left _ (List.mem_append_right _ h)))) (by decide +kernel))
set_option maxRecDepth 20000 in
theorem gL_law_L_token : GoodIn wsL_law (va_wsS RL 96 yL_token wsL_token) := goodIn_app (goodIn_of _ (by decide +kernel)) ggL_law_L_token
set_option maxRecDepth 20000 in
theorem ggL_law_X10_token : GoodIn wsL_law wsX10_token := goodIn_r _ [287, 186, 118, 187, 119, 256, 257, 5, 258, 259, 260, 230, 231, 232, 288, 289, 290, 188, 189, 190, 191, 192, 193, 194, 195, 196, 125, 862, 863, 864, 865, 866, 867, 868, 869, 870, 871, 872, 873, 874, 875, 876, 877, 878, 879, 880, 881, 882, 883, 884, 885, 886, 887, 888, 889, 890, 891, 892, 893] (by decide +kernel) (by decide +kernel)
set_option maxRecDepth 20000 in
theorem gL_law_X10_token : GoodIn wsL_law (wsV RL 99 RX10 yX10_token wsX10_token) := goodIn_app (goodIn_of _ (by decide +kernel)) ggL_law_X10_token
set_option maxRecDepth 20000 in
theorem ggL_law_L_centroid : GoodIn wsL_law wsL_centroid := goodIn_ca (goodIn_ca (goodIn_r _ [293, 236, 140, 294, 295, 296, 2, 297, 241, 242, 145, 146, 19, 268, 269, 270, 243, 244, 245, 246, 247, 298, 299, 300, 18, 301, 62, 275, 276, 277, 27, 278, 279, 71, 152, 153, 154, 155, 156, 157, 158, 159, 42, 48, 160, 161, 162, 44, 163, 164, 165, 166, 167, 47, 168, 109, 169, 170, 171, 39, 172, 173, 174, 69, 175, 176, 177, 280, 281, 282, 283, 72, 853, 854, 855, 856, 857, 858, 859, 860, 861, 894, 895, 896, 897, 898, 899, 903, 904, 905, 917, 918, 919, 920, 921, 922, 923, 924, 913, 914, 915, 916] (by decide +kernel) (by decide +kernel)) (goodIn_sub (fun _ h => List.mem_append_left _ (List.mem_append_right _ h)) (by decide +kernel))) (goodIn_sub (fun _ h => List.mem_append_left _ (List.mem_append_left _ (List.mem_append_left _ (List.mem_append_right _ h)))) (by decide +kernel))
set_option maxRecDepth 20000 in
theorem gL_law_L_centroid : GoodIn wsL_law (va_wsS RL 100 yL_centroid wsL_centroid) := goodIn_app (goodIn_of _ (by decide +kernel)) ggL_law_L_centroid
set_option maxRecDepth 20000 in
theorem ggL_law_X10_centroid : GoodIn wsL_law wsX10_centroid := goodIn_r _ [305, 306, 187, 120, 256, 257, 5, 258, 259, 260, 288, 289, 290, 188, 189, 190, 191, 192, 193, 194, 195, 196, 125, 862, 863, 864, 865, 866, 867, 868, 869, 870, 871, 872, 873, 874, 875, 876, 877, 878, 879, 880, 881, 882, 883, 884, 885, 886, 887, 888, 889, 890, 891, 892, 893] (by decide +kernel) (by decide +kernel)
set_option maxRecDepth 20000 in
theorem gL_law_X10_centroid : GoodIn wsL_law (wsV RL 103 RX10 yX10_centroid wsX10_centroid) := goodIn_app (goodIn_of _ (by decide +kernel)) ggL_law_X10_centroid
set_option maxRecDepth 20000 in
theorem ggL_law_X9_clear : GoodIn wsL_law wsX9_clear := goodIn_r _ [310, 23, 24, 28, 311, 312, 313, 22, 314, 315, 316, 317, 318, 27, 319, 279, 152, 153, 154, 2, 155, 156, 157, 158, 159, 42, 48, 160, 161, 162, 44, 163, 164, 165, 166, 167, 47, 168, 109, 169, 170, 171, 39, 172, 173, 174, 69, 175, 176, 177, 853, 854, 855, 856, 857, 858, 859, 860, 861, 900, 901, 902, 903, 904, 905, 917, 918, 919, 920, 921, 922, 923, 924, 913, 914, 915, 916] (by decide +kernel) (by decide +kernel)
set_option maxRecDepth 20000 in
theorem gL_law_X9_clear : GoodIn wsL_law (wsV RL 104 RX9 yX9_clear wsX9_clear) := goodIn_app (goodIn_of _ (by decide +kernel)) ggL_law_X9_clear
set_option maxRecDepth 20000 in
theorem ggL_law_X10_clear : GoodIn wsL_law wsX10_clear := goodIn_r _ [323, 187, 324, 325, 326, 188, 189, 190, 5, 191, 192, 193, 194, 195, 196, 125, 862, 863, 864, 865, 866, 867, 868, 869, 870, 871, 872, 873, 874, 875, 876, 877, 878, 879, 880, 881, 882, 883, 884, 885, 886, 887, 888, 889, 890, 891, 892, 893] (by decide +kernel) (by decide +kernel)
set_option maxRecDepth 20000 in
theorem gL_law_X10_clear : GoodIn wsL_law (wsV RL 107 RX10 yX10_clear wsX10_clear) := goodIn_app (goodIn_of _ (by decide +kernel)) ggL_law_X10_clear
set_option maxRecDepth 20000 in
theorem ggL_law_L_word : GoodIn wsL_law wsL_word := goodIn_ca (goodIn_ca (goodIn_ca (goodIn_r _ [329, 204, 236, 140, 330, 331, 332, 2, 333, 209, 210, 241, 242, 145, 146, 23, 215, 216, 217, 334, 335, 336, 22, 337, 315, 76, 338, 339, 340, 341, 156, 157, 158, 159, 42, 48, 160, 161, 162, 44, 163, 164, 165, 166, 167, 47, 168, 109, 169, 170, 171, 39, 172, 173, 174, 69, 175, 176, 177, 342, 343, 344, 345, 77, 853, 854, 855, 856, 857, 858, 859, 860, 861, 900, 901, 902, 917, 918, 919, 920, 921, 922, 923, 924, 913, 914, 915, 916] (by decide +kernel) (by decide +kernel)) (goodIn_sub (fun _ h => List.mem_append_left _ (List.mem_append_left _ (List.mem_append_right _ h))) (by decide +kernel))) (goodIn_sub (fun _ h => List.mem_append_left _ (List.mem_append_right _ h)) (by decide +kernel))) (goodIn_sub (fun _ h => List.mem_append_left _ (List.mem_append_left _ (List.mem_append_left _ (List.mem_append_right _ h)))) (by decide +kernel))
set_option maxRecDepth 20000 in
theorem gL_law_L_word : GoodIn wsL_law (va_wsS RL 108 yL_word wsL_word) := goodIn_app (goodIn_of _ (by decide +kernel)) ggL_law_L_word
set_option maxRecDepth 20000 in
theorem ggL_law_X10_word : GoodIn wsL_law wsX10_word := goodIn_r _ [349, 121, 324, 187, 230, 231, 5, 232, 350, 351, 352, 192, 193, 194, 195, 196, 125, 862, 863, 864, 865, 866, 867, 868, 869, 870, 871, 872, 873, 874, 875, 876, 877, 878, 879, 880, 881, 882, 883, 884, 885, 886, 887, 888, 889, 890, 891, 892, 893] (by decide +kernel) (by decide +kernel)
set_option maxRecDepth 20000 in
theorem gL_law_X10_word : GoodIn wsL_law (wsV RL 111 RX10 yX10_word wsX10_word) := goodIn_app (goodIn_of _ (by decide +kernel)) ggL_law_X10_word
set_option maxRecDepth 20000 in
theorem ggL_law_L_impact : GoodIn wsL_law wsL_impact := goodIn_ca (goodIn_ca (goodIn_ca (goodIn_r _ [355, 204, 236, 140, 356, 357, 358, 2, 359, 209, 210, 241, 242, 145, 146, 24, 215, 216, 217, 334, 335, 336, 22, 337, 315, 76, 338, 339, 340, 341, 156, 157, 158, 159, 42, 48, 160, 161, 162, 44, 163, 164, 165, 166, 167, 47, 168, 109, 169, 170, 171, 39, 172, 173, 174, 69, 175, 176, 177, 342, 343, 344, 345, 77, 853, 854, 855, 856, 857, 858, 859, 860, 861, 900, 901, 902, 917, 918, 919, 920, 921, 922, 923, 924, 913, 914, 915, 916] (by decide +kernel) (by decide +kernel)) (goodIn_sub (fun _ h => List.mem_append_left _ (List.mem_append_left _ (List.mem_append_right _ h))) (by decide +kernel))) (goodIn_sub (fun _ h => List.mem_append_left _ (List.mem_append_right _ h)) (by decide +kernel))) (goodIn_sub (fun _ h => List.mem_append_left _ (List.mem_append_left _ (List.mem_append_left _ (List.mem_append_right _ h)))) (by decide +kernel))
set_option maxRecDepth 20000 in
theorem gL_law_L_impact : GoodIn wsL_law (va_wsS RL 112 yL_impact wsL_impact) := goodIn_app (goodIn_of _ (by decide +kernel)) ggL_law_L_impact
set_option maxRecDepth 20000 in
theorem ggL_law_X10_impact : GoodIn wsL_law wsX10_impact := goodIn_r _ [363, 122, 325, 187, 123, 230, 231, 5, 232, 350, 351, 352, 192, 193, 194, 195, 196, 125, 862, 863, 864, 865, 866, 867, 868, 869, 870, 871, 872, 873, 874, 875, 876, 877, 878, 879, 880, 881, 882, 883, 884, 885, 886, 887, 888, 889, 890, 891, 892, 893] (by decide +kernel) (by decide +kernel)
set_option maxRecDepth 20000 in
theorem gL_law_X10_impact : GoodIn wsL_law (wsV RL 114 RX10 yX10_impact wsX10_impact) := goodIn_app (goodIn_of _ (by decide +kernel)) ggL_law_X10_impact
set_option maxRecDepth 20000 in
theorem ggL_law_L_vector : GoodIn wsL_law wsL_vector := goodIn_ca (goodIn_ca (goodIn_r _ [366, 236, 140, 367, 368, 369, 2, 370, 241, 242, 145, 146, 28, 268, 269, 270, 243, 244, 245, 246, 247, 275, 276, 277, 27, 278, 279, 71, 156, 157, 158, 159, 42, 48, 160, 161, 162, 44, 163, 164, 165, 166, 167, 47, 168, 109, 169, 170, 171, 39, 172, 173, 174, 69, 175, 176, 177, 280, 281, 282, 283, 72, 853, 854, 855, 856, 857, 858, 859, 860, 861, 903, 904, 905, 917, 918, 919, 920, 921, 922, 923, 924, 913, 914, 915, 916] (by decide +kernel) (by decide +kernel)) (goodIn_sub (fun _ h => List.mem_append_left _ (List.mem_append_right _ h)) (by decide +kernel))) (goodIn_sub (fun _ h => List.mem_append_left _ (List.mem_append_left _ (List.mem_append_left _ (List.mem_append_right _ h)))) (by decide +kernel))
set_option maxRecDepth 20000 in
theorem gL_law_L_vector : GoodIn wsL_law (va_wsS RL 115 yL_vector wsL_vector) := goodIn_app (goodIn_of _ (by decide +kernel)) ggL_law_L_vector
set_option maxRecDepth 20000 in
theorem ggL_law_X10_vector : GoodIn wsL_law wsX10_vector := goodIn_r _ [374, 326, 187, 124, 256, 257, 5, 258, 259, 260, 288, 289, 290, 192, 193, 194, 195, 196, 125, 862, 863, 864, 865, 866, 867, 868, 869, 870, 871, 872, 873, 874, 875, 876, 877, 878, 879, 880, 881, 882, 883, 884, 885, 886, 887, 888, 889, 890, 891, 892, 893] (by decide +kernel) (by decide +kernel)
set_option maxRecDepth 20000 in
theorem gL_law_X10_vector : GoodIn wsL_law (wsV RL 117 RX10 yX10_vector wsX10_vector) := goodIn_app (goodIn_of _ (by decide +kernel)) ggL_law_X10_vector
set_option maxRecDepth 20000 in
theorem ggL_law_L_search : GoodIn wsL_law wsL_search := goodIn_ca (goodIn_ca (goodIn_r _ [377, 236, 140, 378, 379, 380, 2, 381, 241, 242, 145, 146, 19, 48, 382, 383, 384, 385, 386, 387, 298, 299, 300, 18, 301, 62, 388, 389, 390, 27, 391, 279, 165, 166, 167, 47, 168, 109, 169, 170, 171, 39, 172, 173, 174, 69, 175, 176, 177, 392, 393, 394, 395, 42, 40, 396, 397, 398, 399, 36, 32, 23, 24, 400, 401, 402, 35, 403, 404, 92, 94, 93, 405, 406, 407, 408, 409, 410, 411, 412, 413, 414, 72, 415, 416, 417, 31, 418, 419, 82, 420, 421, 422, 22, 423, 315, 424, 425, 426, 427, 151, 56, 428, 429, 430, 431, 76, 432, 433, 434, 435, 436, 437, 438, 439, 55, 440, 441, 442, 443, 444, 445, 446, 447, 448, 219, 220, 221, 449, 450, 451, 452, 453, 454, 455, 456, 457, 458, 459, 460, 83, 461, 462, 463, 464, 465, 466, 467, 468, 59, 469, 470, 471, 472, 473, 474, 475, 476, 477, 478, 479, 480, 77, 481, 482, 483, 44, 484, 104, 164, 485, 486, 487, 488, 489, 490, 491, 492, 493, 494, 495, 496, 497, 498, 499, 500, 501, 502, 503, 504, 505, 506, 507, 508, 509, 510, 511, 512, 513, 514, 99, 515, 516, 517, 518, 519, 520, 521, 522, 523, 524, 525, 526, 527, 528, 529, 530, 531, 532, 533, 534, 535, 536, 537, 538, 539, 540, 541, 542, 543, 544, 545, 546, 98, 547, 548, 549, 550, 551, 552, 553, 554, 555, 556, 557, 558, 559, 560, 561, 272, 273, 274, 61, 562, 563, 564, 565, 566, 567, 568, 569, 570, 571, 572, 573, 574, 575, 576, 577, 578, 579, 580, 581, 582, 583, 584, 585, 586, 587, 588, 589, 853, 854, 855, 856, 857, 858, 859, 860, 861, 894, 895, 896, 897, 898, 899, 903, 904, 905, 922, 923, 924, 913, 914, 915, 916, 909, 910, 911, 912, 906, 907, 908, 900, 901, 902, 917, 918, 919, 920, 921] (by decide +kernel) (by decide +kernel)) (goodIn_sub (fun _ h => List.mem_append_left _ (List.mem_append_right _ h)) (by decide +kernel))) (goodIn_sub (fun _ h => List.mem_append_left _ (List.mem_append_left _ (List.mem_append_left _ (List.mem_append_right _ h)))) (by decide +kernel))
set_option maxRecDepth 20000 in
theorem gL_law_L_search : GoodIn wsL_law (va_wsS RL 118 yL_search wsL_search) := goodIn_app (goodIn_of _ (by decide +kernel)) ggL_law_L_search
set_option maxRecDepth 20000 in
theorem ggL_law_X10_search : GoodIn wsL_law wsX10_search := goodIn_r _ [593, 187, 306, 594, 595, 596, 597, 598, 186, 132, 130, 133, 131, 196, 125, 126, 127, 128, 129, 230, 231, 5, 232, 599, 600, 601, 602, 603, 604, 605, 606, 607, 608, 609, 610, 611, 612, 613, 614, 324, 325, 615, 616, 617, 618, 116, 121, 122, 619, 620, 621, 622, 117, 623, 624, 625, 626, 627, 628, 629, 630, 631, 632, 123, 633, 634, 635, 636, 637, 638, 639, 640, 641, 642, 643, 644, 645, 646, 647, 648, 649, 650, 651, 652, 653, 654, 655, 656, 657, 658, 118, 326, 659, 660, 661, 662, 663, 664, 665, 666, 124, 119, 667, 668, 669, 670, 671, 672, 673, 674, 675, 676, 677, 678, 679, 680, 681, 682, 683, 684, 120, 862, 863, 864, 865, 866, 867, 868, 869, 870, 871, 872, 873, 874, 875, 876, 877, 878, 879, 880, 881, 882, 883, 884, 885, 886, 887, 888, 889, 890, 891, 892, 893] (by decide +kernel) (by decide +kernel)
set_option maxRecDepth 20000 in
theorem gL_law_X10_search : GoodIn wsL_law (wsV RL 121 RX10 yX10_search wsX10_search) := goodIn_app (goodIn_of _ (by decide +kernel)) ggL_law_X10_search
set_option maxRecDepth 20000 in
theorem ggL_law_L_hit : GoodIn wsL_law wsL_hit := goodIn_ca (goodIn_ca (goodIn_ca (goodIn_r _ [687, 236, 688, 204, 689, 690, 691, 2, 692, 693, 694, 695, 696, 209, 210, 697, 698, 699, 700, 241, 242, 701, 702, 42, 382, 383, 384, 703, 704, 705, 44, 706, 164, 577, 578, 579, 580, 104, 707, 708, 709, 39, 710, 177, 711, 712, 713, 714, 98, 853, 854, 855, 856, 857, 858, 859, 860, 861, 917, 918, 919, 920, 921, 913, 914, 915, 916] (by decide +kernel) (by decide +kernel)) (goodIn_sub (fun _ h => List.mem_append_left _ (List.mem_append_left _ (List.mem_append_right _ h))) (by decide +kernel))) (goodIn_sub (fun _ h => List.mem_append_left _ (List.mem_append_right _ h)) (by decide +kernel))) (goodIn_sub (fun _ h => List.mem_append_right _ h) (by decide +kernel))
set_option maxRecDepth 20000 in
theorem gL_law_L_hit : GoodIn wsL_law (va_wsS RL 122 yL_hit wsL_hit) := goodIn_app (goodIn_of _ (by decide +kernel)) ggL_law_L_hit
set_option maxRecDepth 20000 in
theorem ggL_law_X10_hit : GoodIn wsL_law wsX10_hit := goodIn_r _ [718, 187, 127, 719, 720, 721, 5, 722, 125, 126, 230, 231, 232, 862, 863, 864, 865, 866, 867, 868, 869, 870, 871, 872, 873, 874, 875, 876, 877, 878, 879, 880, 881, 882, 883, 884, 885, 886, 887, 888, 889, 890, 891, 892, 893] (by decide +kernel) (by decide +kernel)
set_option maxRecDepth 20000 in
theorem gL_law_X10_hit : GoodIn wsL_law (wsV RL 124 RX10 yX10_hit wsX10_hit) := goodIn_app (goodIn_of _ (by decide +kernel)) ggL_law_X10_hit
set_option maxRecDepth 20000 in
theorem ggL_law_L_score : GoodIn wsL_law wsL_score := goodIn_ca (goodIn_ca (goodIn_ca (goodIn_r _ [725, 236, 688, 204, 726, 727, 728, 2, 729, 693, 694, 695, 696, 209, 210, 697, 698, 699, 700, 241, 242, 701, 702, 42, 382, 383, 384, 703, 704, 705, 44, 706, 164, 577, 578, 579, 580, 104, 707, 708, 709, 39, 710, 177, 730, 731, 732, 733, 99, 853, 854, 855, 856, 857, 858, 859, 860, 861, 917, 918, 919, 920, 921, 913, 914, 915, 916] (by decide +kernel) (by decide +kernel)) (goodIn_sub (fun _ h => List.mem_append_left _ (List.mem_append_left _ (List.mem_append_right _ h))) (by decide +kernel))) (goodIn_sub (fun _ h => List.mem_append_left _ (List.mem_append_right _ h)) (by decide +kernel))) (goodIn_sub (fun _ h => List.mem_append_right _ h) (by decide +kernel))
set_option maxRecDepth 20000 in
theorem gL_law_L_score : GoodIn wsL_law (va_wsS RL 125 yL_score wsL_score) := goodIn_app (goodIn_of _ (by decide +kernel)) ggL_law_L_score
set_option maxRecDepth 20000 in
theorem ggL_law_X10_score_ : GoodIn wsL_law wsX10_score_ := goodIn_r _ [737, 187, 128, 719, 720, 721, 5, 722, 125, 126, 230, 231, 232, 862, 863, 864, 865, 866, 867, 868, 869, 870, 871, 872, 873, 874, 875, 876, 877, 878, 879, 880, 881, 882, 883, 884, 885, 886, 887, 888, 889, 890, 891, 892, 893] (by decide +kernel) (by decide +kernel)
set_option maxRecDepth 20000 in
theorem gL_law_X10_score_ : GoodIn wsL_law (wsV RL 128 RX10 yX10_score_ wsX10_score_) := goodIn_app (goodIn_of _ (by decide +kernel)) ggL_law_X10_score_
set_option maxRecDepth 20000 in
theorem ggL_law_L_work : GoodIn wsL_law wsL_work := goodIn_ca (goodIn_ca (goodIn_r _ [740, 236, 688, 741, 742, 743, 2, 744, 241, 242, 697, 698, 699, 700, 701, 702, 42, 382, 383, 384, 703, 704, 705, 44, 706, 164, 745, 746, 747, 748, 485, 749, 750, 751, 752, 486, 753, 754, 755, 756, 487, 853, 854, 855, 856, 857, 858, 859, 860, 861, 917, 918, 919, 920, 921] (by decide +kernel) (by decide +kernel)) (goodIn_sub (fun _ h => List.mem_append_left _ (List.mem_append_right _ h)) (by decide +kernel))) (goodIn_sub (fun _ h => List.mem_append_right _ h) (by decide +kernel))
set_option maxRecDepth 20000 in
theorem gL_law_L_work : GoodIn wsL_law (va_wsS RL 129 yL_work wsL_work) := goodIn_app (goodIn_of _ (by decide +kernel)) ggL_law_L_work
set_option maxRecDepth 20000 in
theorem ggL_law_X10_work : GoodIn wsL_law wsX10_work := goodIn_r _ [760, 125, 187, 129, 230, 231, 5, 232, 862, 863, 864, 865, 866, 867, 868, 869, 870, 871, 872, 873, 874, 875, 876, 877, 878, 879, 880, 881, 882, 883, 884, 885, 886, 887, 888, 889, 890, 891, 892, 893] (by decide +kernel) (by decide +kernel)
set_option maxRecDepth 20000 in
theorem gL_law_X10_work : GoodIn wsL_law (wsV RL 131 RX10 yX10_work wsX10_work) := goodIn_app (goodIn_of _ (by decide +kernel)) ggL_law_X10_work
set_option maxRecDepth 20000 in
theorem ggL_law_L_fuse : GoodIn wsL_law wsL_fuse := goodIn_ca (goodIn_ca (goodIn_r _ [763, 236, 140, 764, 765, 766, 2, 767, 241, 242, 145, 146, 48, 42, 768, 769, 770, 771, 703, 704, 705, 44, 706, 164, 772, 773, 774, 47, 775, 110, 111, 109, 776, 777, 578, 579, 580, 104, 778, 779, 780, 781, 782, 587, 588, 39, 589, 177, 783, 712, 713, 714, 98, 784, 785, 786, 787, 731, 732, 733, 99, 169, 170, 171, 172, 173, 174, 69, 175, 176, 788, 544, 545, 546, 547, 548, 549, 550, 853, 854, 855, 856, 857, 858, 859, 860, 861, 917, 918, 919, 920, 921, 922, 923, 924, 913, 914, 915, 916] (by decide +kernel) (by decide +kernel)) (goodIn_sub (fun _ h => List.mem_append_left _ (List.mem_append_right _ h)) (by decide +kernel))) (goodIn_sub (fun _ h => List.mem_append_left _ (List.mem_append_left _ (List.mem_append_left _ (List.mem_append_right _ h)))) (by decide +kernel))
set_option maxRecDepth 20000 in
theorem gL_law_L_fuse : GoodIn wsL_law (va_wsS RL 132 yL_fuse wsL_fuse) := goodIn_app (goodIn_of _ (by decide +kernel)) ggL_law_L_fuse
set_option maxRecDepth 20000 in
theorem ggL_law_X10_fuse : GoodIn wsL_law wsX10_fuse := goodIn_r _ [792, 125, 187, 598, 186, 196, 134, 130, 135, 131, 230, 231, 5, 232, 793, 794, 795, 796, 126, 127, 797, 798, 799, 800, 801, 128, 673, 674, 675, 676, 862, 863, 864, 865, 866, 867, 868, 869, 870, 871, 872, 873, 874, 875, 876, 877, 878, 879, 880, 881, 882, 883, 884, 885, 886, 887, 888, 889, 890, 891, 892, 893] (by decide +kernel) (by decide +kernel)
set_option maxRecDepth 20000 in
theorem gL_law_X10_fuse : GoodIn wsL_law (wsV RL 134 RX10 yX10_fuse wsX10_fuse) := goodIn_app (goodIn_of _ (by decide +kernel)) ggL_law_X10_fuse
set_option maxRecDepth 20000 in
theorem ggL_law_L_fused : GoodIn wsL_law wsL_fused := goodIn_ca (goodIn_r _ [804, 204, 805, 806, 807, 2, 808, 209, 210, 48, 809, 810, 811, 47, 812, 109, 707, 708, 709, 39, 710, 177, 711, 712, 713, 714, 98, 853, 854, 855, 856, 857, 858, 859, 860, 861, 922, 923, 924, 913, 914, 915, 916] (by decide +kernel) (by decide +kernel)) (goodIn_sub (fun _ h => List.mem_append_left _ (List.mem_append_left _ (List.mem_append_right _ h))) (by decide +kernel))
set_option maxRecDepth 20000 in
theorem gL_law_L_fused : GoodIn wsL_law (va_wsS RL 135 yL_fused wsL_fused) := goodIn_app (goodIn_of _ (by decide +kernel)) ggL_law_L_fused
set_option maxRecDepth 20000 in
theorem ggL_law_X10_fused : GoodIn wsL_law wsX10_fused := goodIn_r _ [816, 196, 187, 134, 230, 231, 5, 232, 862, 863, 864, 865, 866, 867, 868, 869, 870, 871, 872, 873, 874, 875, 876, 877, 878, 879, 880, 881, 882, 883, 884, 885, 886, 887, 888, 889, 890, 891, 892, 893] (by decide +kernel) (by decide +kernel)
set_option maxRecDepth 20000 in
theorem gL_law_X10_fused : GoodIn wsL_law (wsV RL 137 RX10 yX10_fused wsX10_fused) := goodIn_app (goodIn_of _ (by decide +kernel)) ggL_law_X10_fused
set_option maxRecDepth 20000 in
theorem ggL_law_L_rating : GoodIn wsL_law wsL_rating := goodIn_ca (goodIn_r _ [819, 204, 820, 821, 822, 2, 823, 209, 210, 48, 809, 810, 811, 47, 812, 109, 707, 708, 709, 39, 710, 177, 730, 731, 732, 733, 99, 853, 854, 855, 856, 857, 858, 859, 860, 861, 922, 923, 924, 913, 914, 915, 916] (by decide +kernel) (by decide +kernel)) (goodIn_sub (fun _ h => List.mem_append_left _ (List.mem_append_left _ (List.mem_append_right _ h))) (by decide +kernel))
set_option maxRecDepth 20000 in
theorem gL_law_L_rating : GoodIn wsL_law (va_wsS RL 138 yL_rating wsL_rating) := goodIn_app (goodIn_of _ (by decide +kernel)) ggL_law_L_rating
set_option maxRecDepth 20000 in
theorem ggL_law_X10_rating : GoodIn wsL_law wsX10_rating := goodIn_r _ [827, 196, 187, 135, 230, 231, 5, 232, 862, 863, 864, 865, 866, 867, 868, 869, 870, 871, 872, 873, 874, 875, 876, 877, 878, 879, 880, 881, 882, 883, 884, 885, 886, 887, 888, 889, 890, 891, 892, 893] (by decide +kernel) (by decide +kernel)
set_option maxRecDepth 20000 in
theorem gL_law_X10_rating : GoodIn wsL_law (wsV RL 141 RX10 yX10_rating wsX10_rating) := goodIn_app (goodIn_of _ (by decide +kernel)) ggL_law_X10_rating
set_option maxRecDepth 20000 in
theorem ggL_law_X9_log : GoodIn wsL_law wsX9_log := goodIn_r _ [831, 832, 833, 443, 444, 2, 445, 446, 447] (by decide +kernel) (by decide +kernel)
set_option maxRecDepth 20000 in
theorem gL_law_X9_log : GoodIn wsL_law (wsV RL 144 RX9 yX9_log wsX9_log) := goodIn_app (goodIn_of _ (by decide +kernel)) ggL_law_X9_log
set_option maxRecDepth 20000 in
theorem ggL_law_X10_log : GoodIn wsL_law wsX10_log := goodIn_r _ [837, 187, 838, 839, 646, 647, 5, 648, 649, 650, 862, 863, 864, 865, 866, 867, 868, 869, 870, 871, 872, 873, 874, 875, 876, 877, 878, 879, 880, 881, 882, 883, 884, 885, 886, 887, 888, 889, 890, 891, 892, 893] (by decide +kernel) (by decide +kernel)
set_option maxRecDepth 20000 in
theorem gL_law_X10_log : GoodIn wsL_law (wsV RL 148 RX10 yX10_log wsX10_log) := goodIn_app (goodIn_of _ (by decide +kernel)) ggL_law_X10_log
set_option maxRecDepth 20000 in
theorem ggL_law_L_quantised : GoodIn wsL_law wsL_quantised := goodIn_ca (goodIn_r _ [842, 204, 843, 844, 845, 2, 846, 209, 210, 19, 211, 212, 213, 18, 214, 151, 215, 216, 217, 847, 466, 467, 468, 59, 469, 470, 848, 472, 473, 474, 475, 476, 853, 854, 855, 856, 857, 858, 859, 860, 861, 894, 895, 896, 897, 898, 899] (by decide +kernel) (by decide +kernel)) (goodIn_sub (fun _ h => List.mem_append_left _ (List.mem_append_left _ (List.mem_append_right _ h))) (by decide +kernel))
set_option maxRecDepth 20000 in
theorem gL_law_L_quantised : GoodIn wsL_law (va_wsS RL 149 yL_quantised wsL_quantised) := goodIn_app (goodIn_of _ (by decide +kernel)) ggL_law_L_quantised
set_option maxRecDepth 20000 in
theorem ggL_law_X10_quantised : GoodIn wsL_law wsX10_quantised := goodIn_r _ [852, 186, 187, 230, 231, 5, 232, 619, 620, 621, 622, 117, 623, 624, 862, 863, 864, 865, 866, 867, 868, 869, 870, 871, 872, 873, 874, 875, 876, 877, 878, 879, 880, 881, 882, 883, 884, 885, 886, 887, 888, 889, 890, 891, 892, 893] (by decide +kernel) (by decide +kernel)
set_option maxRecDepth 20000 in
theorem gL_law_X10_quantised : GoodIn wsL_law (wsV RL 151 RX10 yX10_quantised wsX10_quantised) := goodIn_app (goodIn_of _ (by decide +kernel)) ggL_law_X10_quantised
theorem dL_law_0 : decode cL_law 0 = .ok (.new 8, 3) := by decide +kernel
theorem dL_law_3 : decode cL_law 3 = .ok (.dup, 1) := by decide +kernel
theorem dL_law_4 : decode cL_law 4 = .ok (.invokespecial 74, 3) := by decide +kernel
theorem dL_law_7 : decode cL_law 7 = .ok (.astore_n 1, 1) := by decide +kernel
theorem dL_law_8 : decode cL_law 8 = .ok (.new 75, 3) := by decide +kernel
theorem dL_law_11 : decode cL_law 11 = .ok (.dup, 1) := by decide +kernel
theorem dL_law_12 : decode cL_law 12 = .ok (.invokespecial 77, 3) := by decide +kernel
theorem dL_law_15 : decode cL_law 15 = .ok (.astore_n 2, 1) := by decide +kernel
theorem dL_law_16 : decode cL_law 16 = .ok (.iconst 1, 1) := by decide +kernel
theorem dL_law_17 : decode cL_law 17 = .ok (.newarray .long, 2) := by decide +kernel
theorem dL_law_19 : decode cL_law 19 = .ok (.astore_n 3, 1) := by decide +kernel
theorem dL_law_20 : decode cL_law 20 = .ok (.iconst 1, 1) := by decide +kernel
theorem dL_law_21 : decode cL_law 21 = .ok (.newarray .double, 2) := by decide +kernel
theorem dL_law_23 : decode cL_law 23 = .ok (.astore 4, 2) := by decide +kernel
theorem dL_law_25 : decode cL_law 25 = .ok (.iconst 0, 1) := by decide +kernel
theorem dL_law_26 : decode cL_law 26 = .ok (.istore 5, 2) := by decide +kernel
theorem dL_law_28 : decode cL_law 28 = .ok (.iload 5, 2) := by decide +kernel
theorem dL_law_30 : decode cL_law 30 = .ok (.aload_n 0, 1) := by decide +kernel
theorem dL_law_31 : decode cL_law 31 = .ok (.arraylength, 1) := by decide +kernel
theorem dL_law_32 : decode cL_law 32 = .ok (.bipush 6, 2) := by decide +kernel
theorem dL_law_34 : decode cL_law 34 = .ok (.isub, 1) := by decide +kernel
theorem dL_law_35 : decode cL_law 35 = .ok (.if_icmp .gt 1439, 3) := by decide +kernel
theorem dL_law_38 : decode cL_law 38 = .ok (.aload_n 0, 1) := by decide +kernel
theorem dL_law_39 : decode cL_law 39 = .ok (.iload 5, 2) := by decide +kernel
theorem dL_law_41 : decode cL_law 41 = .ok (.iaload, 1) := by decide +kernel
theorem dL_law_42 : decode cL_law 42 = .ok (.bipush 31, 2) := by decide +kernel
theorem dL_law_44 : decode cL_law 44 = .ok (.iand, 1) := by decide +kernel
theorem dL_law_45 : decode cL_law 45 = .ok (.tableswitch 1423 0 17 #[87, 131, 199, 267, 403, 527, 538, 594, 662, 786, 878, 946, 1035, 1103, 1159, 1215, 1292, 1355], 87) := by decide +kernel
theorem dL_law_132 : decode cL_law 132 = .ok (.aload_n 1, 1) := by decide +kernel
theorem dL_law_133 : decode cL_law 133 = .ok (.aload_n 3, 1) := by decide +kernel
theorem dL_law_134 : decode cL_law 134 = .ok (.invokestatic 78, 3) := by decide +kernel
theorem dL_law_137 : decode cL_law 137 = .ok (.istore 6, 2) := by decide +kernel
theorem dL_law_139 : decode cL_law 139 = .ok (.aload_n 2, 1) := by decide +kernel
theorem dL_law_140 : decode cL_law 140 = .ok (.invokevirtual 83, 3) := by decide +kernel
theorem dL_law_143 : decode cL_law 143 = .ok (.istore 7, 2) := by decide +kernel
theorem dL_law_145 : decode cL_law 145 = .ok (.aload_n 2, 1) := by decide +kernel
theorem dL_law_146 : decode cL_law 146 = .ok (.invokevirtual 84, 3) := by decide +kernel
theorem dL_law_149 : decode cL_law 149 = .ok (.iload 6, 2) := by decide +kernel
theorem dL_law_151 : decode cL_law 151 = .ok (.if_icmp .eq 5, 3) := by decide +kernel
theorem dL_law_154 : decode cL_law 154 = .ok (.iconst 0, 1) := by decide +kernel
theorem dL_law_155 : decode cL_law 155 = .ok (.ireturn, 1) := by decide +kernel
theorem dL_law_156 : decode cL_law 156 = .ok (.iload 6, 2) := by decide +kernel
theorem dL_law_158 : decode cL_law 158 = .ok (.ifCond .ne 15, 3) := by decide +kernel
theorem dL_law_161 : decode cL_law 161 = .ok (.aload_n 3, 1) := by decide +kernel
theorem dL_law_162 : decode cL_law 162 = .ok (.iconst 0, 1) := by decide +kernel
theorem dL_law_163 : decode cL_law 163 = .ok (.laload, 1) := by decide +kernel
theorem dL_law_164 : decode cL_law 164 = .ok (.iload 7, 2) := by decide +kernel
theorem dL_law_166 : decode cL_law 166 = .ok (.i2l, 1) := by decide +kernel
theorem dL_law_167 : decode cL_law 167 = .ok (.lcmp, 1) := by decide +kernel
theorem dL_law_168 : decode cL_law 168 = .ok (.ifCond .eq 5, 3) := by decide +kernel
theorem dL_law_171 : decode cL_law 171 = .ok (.iconst 0, 1) := by decide +kernel
theorem dL_law_172 : decode cL_law 172 = .ok (.ireturn, 1) := by decide +kernel
theorem dL_law_173 : decode cL_law 173 = .ok (.goto 1295, 3) := by decide +kernel
theorem dL_law_176 : decode cL_law 176 = .ok (.aload_n 1, 1) := by decide +kernel
theorem dL_law_177 : decode cL_law 177 = .ok (.aload_n 0, 1) := by decide +kernel
theorem dL_law_178 : decode cL_law 178 = .ok (.iload 5, 2) := by decide +kernel
theorem dL_law_180 : decode cL_law 180 = .ok (.iconst 1, 1) := by decide +kernel
theorem dL_law_181 : decode cL_law 181 = .ok (.iadd, 1) := by decide +kernel
theorem dL_law_182 : decode cL_law 182 = .ok (.iaload, 1) := by decide +kernel
theorem dL_law_183 : decode cL_law 183 = .ok (.aload_n 0, 1) := by decide +kernel
theorem dL_law_184 : decode cL_law 184 = .ok (.iload 5, 2) := by decide +kernel
theorem dL_law_186 : decode cL_law 186 = .ok (.iconst 2, 1) := by decide +kernel
theorem dL_law_187 : decode cL_law 187 = .ok (.iadd, 1) := by decide +kernel
theorem dL_law_188 : decode cL_law 188 = .ok (.iaload, 1) := by decide +kernel
theorem dL_law_189 : decode cL_law 189 = .ok (.aload_n 3, 1) := by decide +kernel
theorem dL_law_190 : decode cL_law 190 = .ok (.invokestatic 87, 3) := by decide +kernel
theorem dL_law_193 : decode cL_law 193 = .ok (.istore 6, 2) := by decide +kernel
theorem dL_law_195 : decode cL_law 195 = .ok (.aload_n 2, 1) := by decide +kernel
theorem dL_law_196 : decode cL_law 196 = .ok (.aload_n 0, 1) := by decide +kernel
theorem dL_law_197 : decode cL_law 197 = .ok (.iload 5, 2) := by decide +kernel
theorem dL_law_199 : decode cL_law 199 = .ok (.iconst 1, 1) := by decide +kernel
theorem dL_law_200 : decode cL_law 200 = .ok (.iadd, 1) := by decide +kernel
theorem dL_law_201 : decode cL_law 201 = .ok (.iaload, 1) := by decide +kernel
theorem dL_law_202 : decode cL_law 202 = .ok (.aload_n 0, 1) := by decide +kernel
theorem dL_law_203 : decode cL_law 203 = .ok (.iload 5, 2) := by decide +kernel
theorem dL_law_205 : decode cL_law 205 = .ok (.iconst 2, 1) := by decide +kernel
theorem dL_law_206 : decode cL_law 206 = .ok (.iadd, 1) := by decide +kernel
theorem dL_law_207 : decode cL_law 207 = .ok (.iaload, 1) := by decide +kernel
theorem dL_law_208 : decode cL_law 208 = .ok (.invokevirtual 90, 3) := by decide +kernel
theorem dL_law_211 : decode cL_law 211 = .ok (.istore 7, 2) := by decide +kernel
theorem dL_law_213 : decode cL_law 213 = .ok (.aload_n 2, 1) := by decide +kernel
theorem dL_law_214 : decode cL_law 214 = .ok (.invokevirtual 84, 3) := by decide +kernel
theorem dL_law_217 : decode cL_law 217 = .ok (.iload 6, 2) := by decide +kernel
theorem dL_law_219 : decode cL_law 219 = .ok (.if_icmp .eq 5, 3) := by decide +kernel
theorem dL_law_222 : decode cL_law 222 = .ok (.iconst 0, 1) := by decide +kernel
theorem dL_law_223 : decode cL_law 223 = .ok (.ireturn, 1) := by decide +kernel
theorem dL_law_224 : decode cL_law 224 = .ok (.iload 6, 2) := by decide +kernel
theorem dL_law_226 : decode cL_law 226 = .ok (.ifCond .ne 15, 3) := by decide +kernel
theorem dL_law_229 : decode cL_law 229 = .ok (.aload_n 3, 1) := by decide +kernel
theorem dL_law_230 : decode cL_law 230 = .ok (.iconst 0, 1) := by decide +kernel
theorem dL_law_231 : decode cL_law 231 = .ok (.laload, 1) := by decide +kernel
theorem dL_law_232 : decode cL_law 232 = .ok (.iload 7, 2) := by decide +kernel
theorem dL_law_234 : decode cL_law 234 = .ok (.i2l, 1) := by decide +kernel
theorem dL_law_235 : decode cL_law 235 = .ok (.lcmp, 1) := by decide +kernel
theorem dL_law_236 : decode cL_law 236 = .ok (.ifCond .eq 5, 3) := by decide +kernel
theorem dL_law_239 : decode cL_law 239 = .ok (.iconst 0, 1) := by decide +kernel
theorem dL_law_240 : decode cL_law 240 = .ok (.ireturn, 1) := by decide +kernel
theorem dL_law_241 : decode cL_law 241 = .ok (.goto 1227, 3) := by decide +kernel
theorem dL_law_244 : decode cL_law 244 = .ok (.aload_n 1, 1) := by decide +kernel
theorem dL_law_245 : decode cL_law 245 = .ok (.aload_n 0, 1) := by decide +kernel
theorem dL_law_246 : decode cL_law 246 = .ok (.iload 5, 2) := by decide +kernel
theorem dL_law_248 : decode cL_law 248 = .ok (.iconst 1, 1) := by decide +kernel
theorem dL_law_249 : decode cL_law 249 = .ok (.iadd, 1) := by decide +kernel
theorem dL_law_250 : decode cL_law 250 = .ok (.iaload, 1) := by decide +kernel
theorem dL_law_251 : decode cL_law 251 = .ok (.aload_n 0, 1) := by decide +kernel
theorem dL_law_252 : decode cL_law 252 = .ok (.iload 5, 2) := by decide +kernel
theorem dL_law_254 : decode cL_law 254 = .ok (.iconst 2, 1) := by decide +kernel
theorem dL_law_255 : decode cL_law 255 = .ok (.iadd, 1) := by decide +kernel
theorem dL_law_256 : decode cL_law 256 = .ok (.iaload, 1) := by decide +kernel
theorem dL_law_257 : decode cL_law 257 = .ok (.aload_n 0, 1) := by decide +kernel
theorem dL_law_258 : decode cL_law 258 = .ok (.iload 5, 2) := by decide +kernel
theorem dL_law_260 : decode cL_law 260 = .ok (.iconst 3, 1) := by decide +kernel
theorem dL_law_261 : decode cL_law 261 = .ok (.iadd, 1) := by decide +kernel
theorem dL_law_262 : decode cL_law 262 = .ok (.iaload, 1) := by decide +kernel
theorem dL_law_263 : decode cL_law 263 = .ok (.i2f, 1) := by decide +kernel
theorem dL_law_264 : decode cL_law 264 = .ok (.ldc 91, 2) := by decide +kernel
theorem dL_law_266 : decode cL_law 266 = .ok (.fmul, 1) := by decide +kernel
theorem dL_law_267 : decode cL_law 267 = .ok (.invokestatic 92, 3) := by decide +kernel
theorem dL_law_270 : decode cL_law 270 = .ok (.istore 6, 2) := by decide +kernel
theorem dL_law_272 : decode cL_law 272 = .ok (.aload_n 2, 1) := by decide +kernel
theorem dL_law_273 : decode cL_law 273 = .ok (.aload_n 0, 1) := by decide +kernel
theorem dL_law_274 : decode cL_law 274 = .ok (.iload 5, 2) := by decide +kernel
theorem dL_law_276 : decode cL_law 276 = .ok (.iconst 1, 1) := by decide +kernel
theorem dL_law_277 : decode cL_law 277 = .ok (.iadd, 1) := by decide +kernel
theorem dL_law_278 : decode cL_law 278 = .ok (.iaload, 1) := by decide +kernel
theorem dL_law_279 : decode cL_law 279 = .ok (.aload_n 0, 1) := by decide +kernel
theorem dL_law_280 : decode cL_law 280 = .ok (.iload 5, 2) := by decide +kernel
theorem dL_law_282 : decode cL_law 282 = .ok (.iconst 2, 1) := by decide +kernel
theorem dL_law_283 : decode cL_law 283 = .ok (.iadd, 1) := by decide +kernel
theorem dL_law_284 : decode cL_law 284 = .ok (.iaload, 1) := by decide +kernel
theorem dL_law_285 : decode cL_law 285 = .ok (.aload_n 0, 1) := by decide +kernel
theorem dL_law_286 : decode cL_law 286 = .ok (.iload 5, 2) := by decide +kernel
theorem dL_law_288 : decode cL_law 288 = .ok (.iconst 3, 1) := by decide +kernel
theorem dL_law_289 : decode cL_law 289 = .ok (.iadd, 1) := by decide +kernel
theorem dL_law_290 : decode cL_law 290 = .ok (.iaload, 1) := by decide +kernel
theorem dL_law_291 : decode cL_law 291 = .ok (.i2f, 1) := by decide +kernel
theorem dL_law_292 : decode cL_law 292 = .ok (.ldc 91, 2) := by decide +kernel
theorem dL_law_294 : decode cL_law 294 = .ok (.fmul, 1) := by decide +kernel
theorem dL_law_295 : decode cL_law 295 = .ok (.invokevirtual 95, 3) := by decide +kernel
theorem dL_law_298 : decode cL_law 298 = .ok (.aload_n 2, 1) := by decide +kernel
theorem dL_law_299 : decode cL_law 299 = .ok (.invokevirtual 84, 3) := by decide +kernel
theorem dL_law_302 : decode cL_law 302 = .ok (.iload 6, 2) := by decide +kernel
theorem dL_law_304 : decode cL_law 304 = .ok (.if_icmp .eq 5, 3) := by decide +kernel
theorem dL_law_307 : decode cL_law 307 = .ok (.iconst 0, 1) := by decide +kernel
theorem dL_law_308 : decode cL_law 308 = .ok (.ireturn, 1) := by decide +kernel
theorem dL_law_309 : decode cL_law 309 = .ok (.goto 1159, 3) := by decide +kernel
theorem dL_law_312 : decode cL_law 312 = .ok (.aload_n 1, 1) := by decide +kernel
theorem dL_law_313 : decode cL_law 313 = .ok (.aload_n 0, 1) := by decide +kernel
theorem dL_law_314 : decode cL_law 314 = .ok (.iload 5, 2) := by decide +kernel
theorem dL_law_316 : decode cL_law 316 = .ok (.iconst 1, 1) := by decide +kernel
theorem dL_law_317 : decode cL_law 317 = .ok (.iadd, 1) := by decide +kernel
theorem dL_law_318 : decode cL_law 318 = .ok (.iaload, 1) := by decide +kernel
theorem dL_law_319 : decode cL_law 319 = .ok (.aload_n 0, 1) := by decide +kernel
theorem dL_law_320 : decode cL_law 320 = .ok (.iload 5, 2) := by decide +kernel
theorem dL_law_322 : decode cL_law 322 = .ok (.iconst 2, 1) := by decide +kernel
theorem dL_law_323 : decode cL_law 323 = .ok (.iadd, 1) := by decide +kernel
theorem dL_law_324 : decode cL_law 324 = .ok (.iaload, 1) := by decide +kernel
theorem dL_law_325 : decode cL_law 325 = .ok (.i2f, 1) := by decide +kernel
theorem dL_law_326 : decode cL_law 326 = .ok (.ldc 91, 2) := by decide +kernel
theorem dL_law_328 : decode cL_law 328 = .ok (.fmul, 1) := by decide +kernel
theorem dL_law_329 : decode cL_law 329 = .ok (.aload_n 0, 1) := by decide +kernel
theorem dL_law_330 : decode cL_law 330 = .ok (.iload 5, 2) := by decide +kernel
theorem dL_law_332 : decode cL_law 332 = .ok (.iconst 3, 1) := by decide +kernel
theorem dL_law_333 : decode cL_law 333 = .ok (.iadd, 1) := by decide +kernel
theorem dL_law_334 : decode cL_law 334 = .ok (.iaload, 1) := by decide +kernel
theorem dL_law_335 : decode cL_law 335 = .ok (.i2f, 1) := by decide +kernel
theorem dL_law_336 : decode cL_law 336 = .ok (.ldc 91, 2) := by decide +kernel
theorem dL_law_338 : decode cL_law 338 = .ok (.fmul, 1) := by decide +kernel
theorem dL_law_339 : decode cL_law 339 = .ok (.aload_n 0, 1) := by decide +kernel
theorem dL_law_340 : decode cL_law 340 = .ok (.iload 5, 2) := by decide +kernel
theorem dL_law_342 : decode cL_law 342 = .ok (.iconst 4, 1) := by decide +kernel
theorem dL_law_343 : decode cL_law 343 = .ok (.iadd, 1) := by decide +kernel
theorem dL_law_344 : decode cL_law 344 = .ok (.iaload, 1) := by decide +kernel
theorem dL_law_345 : decode cL_law 345 = .ok (.i2f, 1) := by decide +kernel
theorem dL_law_346 : decode cL_law 346 = .ok (.ldc 91, 2) := by decide +kernel
theorem dL_law_348 : decode cL_law 348 = .ok (.fmul, 1) := by decide +kernel
theorem dL_law_349 : decode cL_law 349 = .ok (.aload_n 0, 1) := by decide +kernel
theorem dL_law_350 : decode cL_law 350 = .ok (.iload 5, 2) := by decide +kernel
theorem dL_law_352 : decode cL_law 352 = .ok (.iconst 5, 1) := by decide +kernel
theorem dL_law_353 : decode cL_law 353 = .ok (.iadd, 1) := by decide +kernel
theorem dL_law_354 : decode cL_law 354 = .ok (.iaload, 1) := by decide +kernel
theorem dL_law_355 : decode cL_law 355 = .ok (.i2f, 1) := by decide +kernel
theorem dL_law_356 : decode cL_law 356 = .ok (.ldc 91, 2) := by decide +kernel
theorem dL_law_358 : decode cL_law 358 = .ok (.fmul, 1) := by decide +kernel
theorem dL_law_359 : decode cL_law 359 = .ok (.aload_n 3, 1) := by decide +kernel
theorem dL_law_360 : decode cL_law 360 = .ok (.invokestatic 96, 3) := by decide +kernel
theorem dL_law_363 : decode cL_law 363 = .ok (.istore 6, 2) := by decide +kernel
theorem dL_law_365 : decode cL_law 365 = .ok (.aload_n 2, 1) := by decide +kernel
theorem dL_law_366 : decode cL_law 366 = .ok (.aload_n 0, 1) := by decide +kernel
theorem dL_law_367 : decode cL_law 367 = .ok (.iload 5, 2) := by decide +kernel
theorem dL_law_369 : decode cL_law 369 = .ok (.iconst 1, 1) := by decide +kernel
theorem dL_law_370 : decode cL_law 370 = .ok (.iadd, 1) := by decide +kernel
theorem dL_law_371 : decode cL_law 371 = .ok (.iaload, 1) := by decide +kernel
theorem dL_law_372 : decode cL_law 372 = .ok (.aload_n 0, 1) := by decide +kernel
theorem dL_law_373 : decode cL_law 373 = .ok (.iload 5, 2) := by decide +kernel
theorem dL_law_375 : decode cL_law 375 = .ok (.iconst 2, 1) := by decide +kernel
theorem dL_law_376 : decode cL_law 376 = .ok (.iadd, 1) := by decide +kernel
theorem dL_law_377 : decode cL_law 377 = .ok (.iaload, 1) := by decide +kernel
theorem dL_law_378 : decode cL_law 378 = .ok (.i2f, 1) := by decide +kernel
theorem dL_law_379 : decode cL_law 379 = .ok (.ldc 91, 2) := by decide +kernel
theorem dL_law_381 : decode cL_law 381 = .ok (.fmul, 1) := by decide +kernel
theorem dL_law_382 : decode cL_law 382 = .ok (.aload_n 0, 1) := by decide +kernel
theorem dL_law_383 : decode cL_law 383 = .ok (.iload 5, 2) := by decide +kernel
theorem dL_law_385 : decode cL_law 385 = .ok (.iconst 3, 1) := by decide +kernel
theorem dL_law_386 : decode cL_law 386 = .ok (.iadd, 1) := by decide +kernel
theorem dL_law_387 : decode cL_law 387 = .ok (.iaload, 1) := by decide +kernel
theorem dL_law_388 : decode cL_law 388 = .ok (.i2f, 1) := by decide +kernel
theorem dL_law_389 : decode cL_law 389 = .ok (.ldc 91, 2) := by decide +kernel
theorem dL_law_391 : decode cL_law 391 = .ok (.fmul, 1) := by decide +kernel
theorem dL_law_392 : decode cL_law 392 = .ok (.aload_n 0, 1) := by decide +kernel
theorem dL_law_393 : decode cL_law 393 = .ok (.iload 5, 2) := by decide +kernel
theorem dL_law_395 : decode cL_law 395 = .ok (.iconst 4, 1) := by decide +kernel
theorem dL_law_396 : decode cL_law 396 = .ok (.iadd, 1) := by decide +kernel
theorem dL_law_397 : decode cL_law 397 = .ok (.iaload, 1) := by decide +kernel
theorem dL_law_398 : decode cL_law 398 = .ok (.i2f, 1) := by decide +kernel
theorem dL_law_399 : decode cL_law 399 = .ok (.ldc 91, 2) := by decide +kernel
theorem dL_law_401 : decode cL_law 401 = .ok (.fmul, 1) := by decide +kernel
theorem dL_law_402 : decode cL_law 402 = .ok (.aload_n 0, 1) := by decide +kernel
theorem dL_law_403 : decode cL_law 403 = .ok (.iload 5, 2) := by decide +kernel
theorem dL_law_405 : decode cL_law 405 = .ok (.iconst 5, 1) := by decide +kernel
theorem dL_law_406 : decode cL_law 406 = .ok (.iadd, 1) := by decide +kernel
theorem dL_law_407 : decode cL_law 407 = .ok (.iaload, 1) := by decide +kernel
theorem dL_law_408 : decode cL_law 408 = .ok (.i2f, 1) := by decide +kernel
theorem dL_law_409 : decode cL_law 409 = .ok (.ldc 91, 2) := by decide +kernel
theorem dL_law_411 : decode cL_law 411 = .ok (.fmul, 1) := by decide +kernel
theorem dL_law_412 : decode cL_law 412 = .ok (.invokevirtual 99, 3) := by decide +kernel
theorem dL_law_415 : decode cL_law 415 = .ok (.istore 7, 2) := by decide +kernel
theorem dL_law_417 : decode cL_law 417 = .ok (.aload_n 2, 1) := by decide +kernel
theorem dL_law_418 : decode cL_law 418 = .ok (.invokevirtual 84, 3) := by decide +kernel
theorem dL_law_421 : decode cL_law 421 = .ok (.iload 6, 2) := by decide +kernel
theorem dL_law_423 : decode cL_law 423 = .ok (.if_icmp .eq 5, 3) := by decide +kernel
theorem dL_law_426 : decode cL_law 426 = .ok (.iconst 0, 1) := by decide +kernel
theorem dL_law_427 : decode cL_law 427 = .ok (.ireturn, 1) := by decide +kernel
theorem dL_law_428 : decode cL_law 428 = .ok (.iload 6, 2) := by decide +kernel
theorem dL_law_430 : decode cL_law 430 = .ok (.ifCond .ne 15, 3) := by decide +kernel
theorem dL_law_433 : decode cL_law 433 = .ok (.aload_n 3, 1) := by decide +kernel
theorem dL_law_434 : decode cL_law 434 = .ok (.iconst 0, 1) := by decide +kernel
theorem dL_law_435 : decode cL_law 435 = .ok (.laload, 1) := by decide +kernel
theorem dL_law_436 : decode cL_law 436 = .ok (.iload 7, 2) := by decide +kernel
theorem dL_law_438 : decode cL_law 438 = .ok (.i2l, 1) := by decide +kernel
theorem dL_law_439 : decode cL_law 439 = .ok (.lcmp, 1) := by decide +kernel
theorem dL_law_440 : decode cL_law 440 = .ok (.ifCond .eq 5, 3) := by decide +kernel
theorem dL_law_443 : decode cL_law 443 = .ok (.iconst 0, 1) := by decide +kernel
theorem dL_law_444 : decode cL_law 444 = .ok (.ireturn, 1) := by decide +kernel
theorem dL_law_445 : decode cL_law 445 = .ok (.goto 1023, 3) := by decide +kernel
theorem dL_law_448 : decode cL_law 448 = .ok (.aload_n 1, 1) := by decide +kernel
theorem dL_law_449 : decode cL_law 449 = .ok (.aload_n 0, 1) := by decide +kernel
theorem dL_law_450 : decode cL_law 450 = .ok (.iload 5, 2) := by decide +kernel
theorem dL_law_452 : decode cL_law 452 = .ok (.iconst 1, 1) := by decide +kernel
theorem dL_law_453 : decode cL_law 453 = .ok (.iadd, 1) := by decide +kernel
theorem dL_law_454 : decode cL_law 454 = .ok (.iaload, 1) := by decide +kernel
theorem dL_law_455 : decode cL_law 455 = .ok (.i2f, 1) := by decide +kernel
theorem dL_law_456 : decode cL_law 456 = .ok (.ldc 91, 2) := by decide +kernel
theorem dL_law_458 : decode cL_law 458 = .ok (.fmul, 1) := by decide +kernel
theorem dL_law_459 : decode cL_law 459 = .ok (.aload_n 0, 1) := by decide +kernel
theorem dL_law_460 : decode cL_law 460 = .ok (.iload 5, 2) := by decide +kernel
theorem dL_law_462 : decode cL_law 462 = .ok (.iconst 2, 1) := by decide +kernel
theorem dL_law_463 : decode cL_law 463 = .ok (.iadd, 1) := by decide +kernel
theorem dL_law_464 : decode cL_law 464 = .ok (.iaload, 1) := by decide +kernel
theorem dL_law_465 : decode cL_law 465 = .ok (.i2f, 1) := by decide +kernel
theorem dL_law_466 : decode cL_law 466 = .ok (.ldc 91, 2) := by decide +kernel
theorem dL_law_468 : decode cL_law 468 = .ok (.fmul, 1) := by decide +kernel
theorem dL_law_469 : decode cL_law 469 = .ok (.aload_n 0, 1) := by decide +kernel
theorem dL_law_470 : decode cL_law 470 = .ok (.iload 5, 2) := by decide +kernel
theorem dL_law_472 : decode cL_law 472 = .ok (.iconst 3, 1) := by decide +kernel
theorem dL_law_473 : decode cL_law 473 = .ok (.iadd, 1) := by decide +kernel
theorem dL_law_474 : decode cL_law 474 = .ok (.iaload, 1) := by decide +kernel
theorem dL_law_475 : decode cL_law 475 = .ok (.i2f, 1) := by decide +kernel
theorem dL_law_476 : decode cL_law 476 = .ok (.ldc 91, 2) := by decide +kernel
theorem dL_law_478 : decode cL_law 478 = .ok (.fmul, 1) := by decide +kernel
theorem dL_law_479 : decode cL_law 479 = .ok (.aload_n 0, 1) := by decide +kernel
theorem dL_law_480 : decode cL_law 480 = .ok (.iload 5, 2) := by decide +kernel
theorem dL_law_482 : decode cL_law 482 = .ok (.iconst 4, 1) := by decide +kernel
theorem dL_law_483 : decode cL_law 483 = .ok (.iadd, 1) := by decide +kernel
theorem dL_law_484 : decode cL_law 484 = .ok (.iaload, 1) := by decide +kernel
theorem dL_law_485 : decode cL_law 485 = .ok (.i2f, 1) := by decide +kernel
theorem dL_law_486 : decode cL_law 486 = .ok (.ldc 91, 2) := by decide +kernel
theorem dL_law_488 : decode cL_law 488 = .ok (.fmul, 1) := by decide +kernel
theorem dL_law_489 : decode cL_law 489 = .ok (.aload_n 3, 1) := by decide +kernel
theorem dL_law_490 : decode cL_law 490 = .ok (.invokestatic 100, 3) := by decide +kernel
theorem dL_law_493 : decode cL_law 493 = .ok (.istore 6, 2) := by decide +kernel
theorem dL_law_495 : decode cL_law 495 = .ok (.aload_n 2, 1) := by decide +kernel
theorem dL_law_496 : decode cL_law 496 = .ok (.aload_n 0, 1) := by decide +kernel
theorem dL_law_497 : decode cL_law 497 = .ok (.iload 5, 2) := by decide +kernel
theorem dL_law_499 : decode cL_law 499 = .ok (.iconst 1, 1) := by decide +kernel
theorem dL_law_500 : decode cL_law 500 = .ok (.iadd, 1) := by decide +kernel
theorem dL_law_501 : decode cL_law 501 = .ok (.iaload, 1) := by decide +kernel
theorem dL_law_502 : decode cL_law 502 = .ok (.i2f, 1) := by decide +kernel
theorem dL_law_503 : decode cL_law 503 = .ok (.ldc 91, 2) := by decide +kernel
theorem dL_law_505 : decode cL_law 505 = .ok (.fmul, 1) := by decide +kernel
theorem dL_law_506 : decode cL_law 506 = .ok (.aload_n 0, 1) := by decide +kernel
theorem dL_law_507 : decode cL_law 507 = .ok (.iload 5, 2) := by decide +kernel
theorem dL_law_509 : decode cL_law 509 = .ok (.iconst 2, 1) := by decide +kernel
theorem dL_law_510 : decode cL_law 510 = .ok (.iadd, 1) := by decide +kernel
theorem dL_law_511 : decode cL_law 511 = .ok (.iaload, 1) := by decide +kernel
theorem dL_law_512 : decode cL_law 512 = .ok (.i2f, 1) := by decide +kernel
theorem dL_law_513 : decode cL_law 513 = .ok (.ldc 91, 2) := by decide +kernel
theorem dL_law_515 : decode cL_law 515 = .ok (.fmul, 1) := by decide +kernel
theorem dL_law_516 : decode cL_law 516 = .ok (.aload_n 0, 1) := by decide +kernel
theorem dL_law_517 : decode cL_law 517 = .ok (.iload 5, 2) := by decide +kernel
theorem dL_law_519 : decode cL_law 519 = .ok (.iconst 3, 1) := by decide +kernel
theorem dL_law_520 : decode cL_law 520 = .ok (.iadd, 1) := by decide +kernel
theorem dL_law_521 : decode cL_law 521 = .ok (.iaload, 1) := by decide +kernel
theorem dL_law_522 : decode cL_law 522 = .ok (.i2f, 1) := by decide +kernel
theorem dL_law_523 : decode cL_law 523 = .ok (.ldc 91, 2) := by decide +kernel
theorem dL_law_525 : decode cL_law 525 = .ok (.fmul, 1) := by decide +kernel
theorem dL_law_526 : decode cL_law 526 = .ok (.aload_n 0, 1) := by decide +kernel
theorem dL_law_527 : decode cL_law 527 = .ok (.iload 5, 2) := by decide +kernel
theorem dL_law_529 : decode cL_law 529 = .ok (.iconst 4, 1) := by decide +kernel
theorem dL_law_530 : decode cL_law 530 = .ok (.iadd, 1) := by decide +kernel
theorem dL_law_531 : decode cL_law 531 = .ok (.iaload, 1) := by decide +kernel
theorem dL_law_532 : decode cL_law 532 = .ok (.i2f, 1) := by decide +kernel
theorem dL_law_533 : decode cL_law 533 = .ok (.ldc 91, 2) := by decide +kernel
theorem dL_law_535 : decode cL_law 535 = .ok (.fmul, 1) := by decide +kernel
theorem dL_law_536 : decode cL_law 536 = .ok (.invokevirtual 103, 3) := by decide +kernel
theorem dL_law_539 : decode cL_law 539 = .ok (.istore 7, 2) := by decide +kernel
theorem dL_law_541 : decode cL_law 541 = .ok (.aload_n 2, 1) := by decide +kernel
theorem dL_law_542 : decode cL_law 542 = .ok (.invokevirtual 84, 3) := by decide +kernel
theorem dL_law_545 : decode cL_law 545 = .ok (.iload 6, 2) := by decide +kernel
theorem dL_law_547 : decode cL_law 547 = .ok (.if_icmp .eq 5, 3) := by decide +kernel
theorem dL_law_550 : decode cL_law 550 = .ok (.iconst 0, 1) := by decide +kernel
theorem dL_law_551 : decode cL_law 551 = .ok (.ireturn, 1) := by decide +kernel
theorem dL_law_552 : decode cL_law 552 = .ok (.iload 6, 2) := by decide +kernel
theorem dL_law_554 : decode cL_law 554 = .ok (.ifCond .ne 15, 3) := by decide +kernel
theorem dL_law_557 : decode cL_law 557 = .ok (.aload_n 3, 1) := by decide +kernel
theorem dL_law_558 : decode cL_law 558 = .ok (.iconst 0, 1) := by decide +kernel
theorem dL_law_559 : decode cL_law 559 = .ok (.laload, 1) := by decide +kernel
theorem dL_law_560 : decode cL_law 560 = .ok (.iload 7, 2) := by decide +kernel
theorem dL_law_562 : decode cL_law 562 = .ok (.i2l, 1) := by decide +kernel
theorem dL_law_563 : decode cL_law 563 = .ok (.lcmp, 1) := by decide +kernel
theorem dL_law_564 : decode cL_law 564 = .ok (.ifCond .eq 5, 3) := by decide +kernel
theorem dL_law_567 : decode cL_law 567 = .ok (.iconst 0, 1) := by decide +kernel
theorem dL_law_568 : decode cL_law 568 = .ok (.ireturn, 1) := by decide +kernel
theorem dL_law_569 : decode cL_law 569 = .ok (.goto 899, 3) := by decide +kernel
theorem dL_law_572 : decode cL_law 572 = .ok (.aload_n 1, 1) := by decide +kernel
theorem dL_law_573 : decode cL_law 573 = .ok (.invokevirtual 104, 3) := by decide +kernel
theorem dL_law_576 : decode cL_law 576 = .ok (.aload_n 2, 1) := by decide +kernel
theorem dL_law_577 : decode cL_law 577 = .ok (.invokevirtual 107, 3) := by decide +kernel
theorem dL_law_580 : decode cL_law 580 = .ok (.goto 888, 3) := by decide +kernel
theorem dL_law_583 : decode cL_law 583 = .ok (.aload_n 1, 1) := by decide +kernel
theorem dL_law_584 : decode cL_law 584 = .ok (.aload_n 0, 1) := by decide +kernel
theorem dL_law_585 : decode cL_law 585 = .ok (.iload 5, 2) := by decide +kernel
theorem dL_law_587 : decode cL_law 587 = .ok (.iconst 1, 1) := by decide +kernel
theorem dL_law_588 : decode cL_law 588 = .ok (.iadd, 1) := by decide +kernel
theorem dL_law_589 : decode cL_law 589 = .ok (.iaload, 1) := by decide +kernel
theorem dL_law_590 : decode cL_law 590 = .ok (.aload_n 3, 1) := by decide +kernel
theorem dL_law_591 : decode cL_law 591 = .ok (.invokestatic 108, 3) := by decide +kernel
theorem dL_law_594 : decode cL_law 594 = .ok (.istore 6, 2) := by decide +kernel
theorem dL_law_596 : decode cL_law 596 = .ok (.aload_n 2, 1) := by decide +kernel
theorem dL_law_597 : decode cL_law 597 = .ok (.aload_n 0, 1) := by decide +kernel
theorem dL_law_598 : decode cL_law 598 = .ok (.iload 5, 2) := by decide +kernel
theorem dL_law_600 : decode cL_law 600 = .ok (.iconst 1, 1) := by decide +kernel
theorem dL_law_601 : decode cL_law 601 = .ok (.iadd, 1) := by decide +kernel
theorem dL_law_602 : decode cL_law 602 = .ok (.iaload, 1) := by decide +kernel
theorem dL_law_603 : decode cL_law 603 = .ok (.invokevirtual 111, 3) := by decide +kernel
theorem dL_law_606 : decode cL_law 606 = .ok (.istore 7, 2) := by decide +kernel
theorem dL_law_608 : decode cL_law 608 = .ok (.aload_n 2, 1) := by decide +kernel
theorem dL_law_609 : decode cL_law 609 = .ok (.invokevirtual 84, 3) := by decide +kernel
theorem dL_law_612 : decode cL_law 612 = .ok (.iload 6, 2) := by decide +kernel
theorem dL_law_614 : decode cL_law 614 = .ok (.if_icmp .eq 5, 3) := by decide +kernel
theorem dL_law_617 : decode cL_law 617 = .ok (.iconst 0, 1) := by decide +kernel
theorem dL_law_618 : decode cL_law 618 = .ok (.ireturn, 1) := by decide +kernel
theorem dL_law_619 : decode cL_law 619 = .ok (.iload 6, 2) := by decide +kernel
theorem dL_law_621 : decode cL_law 621 = .ok (.ifCond .ne 15, 3) := by decide +kernel
theorem dL_law_624 : decode cL_law 624 = .ok (.aload_n 3, 1) := by decide +kernel
theorem dL_law_625 : decode cL_law 625 = .ok (.iconst 0, 1) := by decide +kernel
theorem dL_law_626 : decode cL_law 626 = .ok (.laload, 1) := by decide +kernel
theorem dL_law_627 : decode cL_law 627 = .ok (.iload 7, 2) := by decide +kernel
theorem dL_law_629 : decode cL_law 629 = .ok (.i2l, 1) := by decide +kernel
theorem dL_law_630 : decode cL_law 630 = .ok (.lcmp, 1) := by decide +kernel
theorem dL_law_631 : decode cL_law 631 = .ok (.ifCond .eq 5, 3) := by decide +kernel
theorem dL_law_634 : decode cL_law 634 = .ok (.iconst 0, 1) := by decide +kernel
theorem dL_law_635 : decode cL_law 635 = .ok (.ireturn, 1) := by decide +kernel
theorem dL_law_636 : decode cL_law 636 = .ok (.goto 832, 3) := by decide +kernel
theorem dL_law_639 : decode cL_law 639 = .ok (.aload_n 1, 1) := by decide +kernel
theorem dL_law_640 : decode cL_law 640 = .ok (.aload_n 0, 1) := by decide +kernel
theorem dL_law_641 : decode cL_law 641 = .ok (.iload 5, 2) := by decide +kernel
theorem dL_law_643 : decode cL_law 643 = .ok (.iconst 1, 1) := by decide +kernel
theorem dL_law_644 : decode cL_law 644 = .ok (.iadd, 1) := by decide +kernel
theorem dL_law_645 : decode cL_law 645 = .ok (.iaload, 1) := by decide +kernel
theorem dL_law_646 : decode cL_law 646 = .ok (.aload_n 0, 1) := by decide +kernel
theorem dL_law_647 : decode cL_law 647 = .ok (.iload 5, 2) := by decide +kernel
theorem dL_law_649 : decode cL_law 649 = .ok (.iconst 2, 1) := by decide +kernel
theorem dL_law_650 : decode cL_law 650 = .ok (.iadd, 1) := by decide +kernel
theorem dL_law_651 : decode cL_law 651 = .ok (.iaload, 1) := by decide +kernel
theorem dL_law_652 : decode cL_law 652 = .ok (.aload_n 3, 1) := by decide +kernel
theorem dL_law_653 : decode cL_law 653 = .ok (.invokestatic 112, 3) := by decide +kernel
theorem dL_law_656 : decode cL_law 656 = .ok (.istore 6, 2) := by decide +kernel
theorem dL_law_658 : decode cL_law 658 = .ok (.aload_n 2, 1) := by decide +kernel
theorem dL_law_659 : decode cL_law 659 = .ok (.aload_n 0, 1) := by decide +kernel
theorem dL_law_660 : decode cL_law 660 = .ok (.iload 5, 2) := by decide +kernel
theorem dL_law_662 : decode cL_law 662 = .ok (.iconst 1, 1) := by decide +kernel
theorem dL_law_663 : decode cL_law 663 = .ok (.iadd, 1) := by decide +kernel
theorem dL_law_664 : decode cL_law 664 = .ok (.iaload, 1) := by decide +kernel
theorem dL_law_665 : decode cL_law 665 = .ok (.aload_n 0, 1) := by decide +kernel
theorem dL_law_666 : decode cL_law 666 = .ok (.iload 5, 2) := by decide +kernel
theorem dL_law_668 : decode cL_law 668 = .ok (.iconst 2, 1) := by decide +kernel
theorem dL_law_669 : decode cL_law 669 = .ok (.iadd, 1) := by decide +kernel
theorem dL_law_670 : decode cL_law 670 = .ok (.iaload, 1) := by decide +kernel
theorem dL_law_671 : decode cL_law 671 = .ok (.invokevirtual 114, 3) := by decide +kernel
theorem dL_law_674 : decode cL_law 674 = .ok (.istore 7, 2) := by decide +kernel
theorem dL_law_676 : decode cL_law 676 = .ok (.aload_n 2, 1) := by decide +kernel
theorem dL_law_677 : decode cL_law 677 = .ok (.invokevirtual 84, 3) := by decide +kernel
theorem dL_law_680 : decode cL_law 680 = .ok (.iload 6, 2) := by decide +kernel
theorem dL_law_682 : decode cL_law 682 = .ok (.if_icmp .eq 5, 3) := by decide +kernel
theorem dL_law_685 : decode cL_law 685 = .ok (.iconst 0, 1) := by decide +kernel
theorem dL_law_686 : decode cL_law 686 = .ok (.ireturn, 1) := by decide +kernel
theorem dL_law_687 : decode cL_law 687 = .ok (.iload 6, 2) := by decide +kernel
theorem dL_law_689 : decode cL_law 689 = .ok (.ifCond .ne 15, 3) := by decide +kernel
theorem dL_law_692 : decode cL_law 692 = .ok (.aload_n 3, 1) := by decide +kernel
theorem dL_law_693 : decode cL_law 693 = .ok (.iconst 0, 1) := by decide +kernel
theorem dL_law_694 : decode cL_law 694 = .ok (.laload, 1) := by decide +kernel
theorem dL_law_695 : decode cL_law 695 = .ok (.iload 7, 2) := by decide +kernel
theorem dL_law_697 : decode cL_law 697 = .ok (.i2l, 1) := by decide +kernel
theorem dL_law_698 : decode cL_law 698 = .ok (.lcmp, 1) := by decide +kernel
theorem dL_law_699 : decode cL_law 699 = .ok (.ifCond .eq 5, 3) := by decide +kernel
theorem dL_law_702 : decode cL_law 702 = .ok (.iconst 0, 1) := by decide +kernel
theorem dL_law_703 : decode cL_law 703 = .ok (.ireturn, 1) := by decide +kernel
theorem dL_law_704 : decode cL_law 704 = .ok (.goto 764, 3) := by decide +kernel
theorem dL_law_707 : decode cL_law 707 = .ok (.aload_n 1, 1) := by decide +kernel
theorem dL_law_708 : decode cL_law 708 = .ok (.aload_n 0, 1) := by decide +kernel
theorem dL_law_709 : decode cL_law 709 = .ok (.iload 5, 2) := by decide +kernel
theorem dL_law_711 : decode cL_law 711 = .ok (.iconst 1, 1) := by decide +kernel
theorem dL_law_712 : decode cL_law 712 = .ok (.iadd, 1) := by decide +kernel
theorem dL_law_713 : decode cL_law 713 = .ok (.iaload, 1) := by decide +kernel
theorem dL_law_714 : decode cL_law 714 = .ok (.i2f, 1) := by decide +kernel
theorem dL_law_715 : decode cL_law 715 = .ok (.ldc 91, 2) := by decide +kernel
theorem dL_law_717 : decode cL_law 717 = .ok (.fmul, 1) := by decide +kernel
theorem dL_law_718 : decode cL_law 718 = .ok (.aload_n 0, 1) := by decide +kernel
theorem dL_law_719 : decode cL_law 719 = .ok (.iload 5, 2) := by decide +kernel
theorem dL_law_721 : decode cL_law 721 = .ok (.iconst 2, 1) := by decide +kernel
theorem dL_law_722 : decode cL_law 722 = .ok (.iadd, 1) := by decide +kernel
theorem dL_law_723 : decode cL_law 723 = .ok (.iaload, 1) := by decide +kernel
theorem dL_law_724 : decode cL_law 724 = .ok (.i2f, 1) := by decide +kernel
theorem dL_law_725 : decode cL_law 725 = .ok (.ldc 91, 2) := by decide +kernel
theorem dL_law_727 : decode cL_law 727 = .ok (.fmul, 1) := by decide +kernel
theorem dL_law_728 : decode cL_law 728 = .ok (.aload_n 0, 1) := by decide +kernel
theorem dL_law_729 : decode cL_law 729 = .ok (.iload 5, 2) := by decide +kernel
theorem dL_law_731 : decode cL_law 731 = .ok (.iconst 3, 1) := by decide +kernel
theorem dL_law_732 : decode cL_law 732 = .ok (.iadd, 1) := by decide +kernel
theorem dL_law_733 : decode cL_law 733 = .ok (.iaload, 1) := by decide +kernel
theorem dL_law_734 : decode cL_law 734 = .ok (.i2f, 1) := by decide +kernel
theorem dL_law_735 : decode cL_law 735 = .ok (.ldc 91, 2) := by decide +kernel
theorem dL_law_737 : decode cL_law 737 = .ok (.fmul, 1) := by decide +kernel
theorem dL_law_738 : decode cL_law 738 = .ok (.aload_n 0, 1) := by decide +kernel
theorem dL_law_739 : decode cL_law 739 = .ok (.iload 5, 2) := by decide +kernel
theorem dL_law_741 : decode cL_law 741 = .ok (.iconst 4, 1) := by decide +kernel
theorem dL_law_742 : decode cL_law 742 = .ok (.iadd, 1) := by decide +kernel
theorem dL_law_743 : decode cL_law 743 = .ok (.iaload, 1) := by decide +kernel
theorem dL_law_744 : decode cL_law 744 = .ok (.i2f, 1) := by decide +kernel
theorem dL_law_745 : decode cL_law 745 = .ok (.ldc 91, 2) := by decide +kernel
theorem dL_law_747 : decode cL_law 747 = .ok (.fmul, 1) := by decide +kernel
theorem dL_law_748 : decode cL_law 748 = .ok (.aload_n 3, 1) := by decide +kernel
theorem dL_law_749 : decode cL_law 749 = .ok (.invokestatic 115, 3) := by decide +kernel
theorem dL_law_752 : decode cL_law 752 = .ok (.istore 6, 2) := by decide +kernel
theorem dL_law_754 : decode cL_law 754 = .ok (.aload_n 2, 1) := by decide +kernel
theorem dL_law_755 : decode cL_law 755 = .ok (.aload_n 0, 1) := by decide +kernel
theorem dL_law_756 : decode cL_law 756 = .ok (.iload 5, 2) := by decide +kernel
theorem dL_law_758 : decode cL_law 758 = .ok (.iconst 1, 1) := by decide +kernel
theorem dL_law_759 : decode cL_law 759 = .ok (.iadd, 1) := by decide +kernel
theorem dL_law_760 : decode cL_law 760 = .ok (.iaload, 1) := by decide +kernel
theorem dL_law_761 : decode cL_law 761 = .ok (.i2f, 1) := by decide +kernel
theorem dL_law_762 : decode cL_law 762 = .ok (.ldc 91, 2) := by decide +kernel
theorem dL_law_764 : decode cL_law 764 = .ok (.fmul, 1) := by decide +kernel
theorem dL_law_765 : decode cL_law 765 = .ok (.aload_n 0, 1) := by decide +kernel
theorem dL_law_766 : decode cL_law 766 = .ok (.iload 5, 2) := by decide +kernel
theorem dL_law_768 : decode cL_law 768 = .ok (.iconst 2, 1) := by decide +kernel
theorem dL_law_769 : decode cL_law 769 = .ok (.iadd, 1) := by decide +kernel
theorem dL_law_770 : decode cL_law 770 = .ok (.iaload, 1) := by decide +kernel
theorem dL_law_771 : decode cL_law 771 = .ok (.i2f, 1) := by decide +kernel
theorem dL_law_772 : decode cL_law 772 = .ok (.ldc 91, 2) := by decide +kernel
theorem dL_law_774 : decode cL_law 774 = .ok (.fmul, 1) := by decide +kernel
theorem dL_law_775 : decode cL_law 775 = .ok (.aload_n 0, 1) := by decide +kernel
theorem dL_law_776 : decode cL_law 776 = .ok (.iload 5, 2) := by decide +kernel
theorem dL_law_778 : decode cL_law 778 = .ok (.iconst 3, 1) := by decide +kernel
theorem dL_law_779 : decode cL_law 779 = .ok (.iadd, 1) := by decide +kernel
theorem dL_law_780 : decode cL_law 780 = .ok (.iaload, 1) := by decide +kernel
theorem dL_law_781 : decode cL_law 781 = .ok (.i2f, 1) := by decide +kernel
theorem dL_law_782 : decode cL_law 782 = .ok (.ldc 91, 2) := by decide +kernel
theorem dL_law_784 : decode cL_law 784 = .ok (.fmul, 1) := by decide +kernel
theorem dL_law_785 : decode cL_law 785 = .ok (.aload_n 0, 1) := by decide +kernel
theorem dL_law_786 : decode cL_law 786 = .ok (.iload 5, 2) := by decide +kernel
theorem dL_law_788 : decode cL_law 788 = .ok (.iconst 4, 1) := by decide +kernel
theorem dL_law_789 : decode cL_law 789 = .ok (.iadd, 1) := by decide +kernel
theorem dL_law_790 : decode cL_law 790 = .ok (.iaload, 1) := by decide +kernel
theorem dL_law_791 : decode cL_law 791 = .ok (.i2f, 1) := by decide +kernel
theorem dL_law_792 : decode cL_law 792 = .ok (.ldc 91, 2) := by decide +kernel
theorem dL_law_794 : decode cL_law 794 = .ok (.fmul, 1) := by decide +kernel
theorem dL_law_795 : decode cL_law 795 = .ok (.invokevirtual 117, 3) := by decide +kernel
theorem dL_law_798 : decode cL_law 798 = .ok (.istore 7, 2) := by decide +kernel
theorem dL_law_800 : decode cL_law 800 = .ok (.aload_n 2, 1) := by decide +kernel
theorem dL_law_801 : decode cL_law 801 = .ok (.invokevirtual 84, 3) := by decide +kernel
theorem dL_law_804 : decode cL_law 804 = .ok (.iload 6, 2) := by decide +kernel
theorem dL_law_806 : decode cL_law 806 = .ok (.if_icmp .eq 5, 3) := by decide +kernel
theorem dL_law_809 : decode cL_law 809 = .ok (.iconst 0, 1) := by decide +kernel
theorem dL_law_810 : decode cL_law 810 = .ok (.ireturn, 1) := by decide +kernel
theorem dL_law_811 : decode cL_law 811 = .ok (.iload 6, 2) := by decide +kernel
theorem dL_law_813 : decode cL_law 813 = .ok (.ifCond .ne 15, 3) := by decide +kernel
theorem dL_law_816 : decode cL_law 816 = .ok (.aload_n 3, 1) := by decide +kernel
theorem dL_law_817 : decode cL_law 817 = .ok (.iconst 0, 1) := by decide +kernel
theorem dL_law_818 : decode cL_law 818 = .ok (.laload, 1) := by decide +kernel
theorem dL_law_819 : decode cL_law 819 = .ok (.iload 7, 2) := by decide +kernel
theorem dL_law_821 : decode cL_law 821 = .ok (.i2l, 1) := by decide +kernel
theorem dL_law_822 : decode cL_law 822 = .ok (.lcmp, 1) := by decide +kernel
theorem dL_law_823 : decode cL_law 823 = .ok (.ifCond .eq 5, 3) := by decide +kernel
theorem dL_law_826 : decode cL_law 826 = .ok (.iconst 0, 1) := by decide +kernel
theorem dL_law_827 : decode cL_law 827 = .ok (.ireturn, 1) := by decide +kernel
theorem dL_law_828 : decode cL_law 828 = .ok (.goto 640, 3) := by decide +kernel
theorem dL_law_831 : decode cL_law 831 = .ok (.aload_n 1, 1) := by decide +kernel
theorem dL_law_832 : decode cL_law 832 = .ok (.aload_n 0, 1) := by decide +kernel
theorem dL_law_833 : decode cL_law 833 = .ok (.iload 5, 2) := by decide +kernel
theorem dL_law_835 : decode cL_law 835 = .ok (.iconst 1, 1) := by decide +kernel
theorem dL_law_836 : decode cL_law 836 = .ok (.iadd, 1) := by decide +kernel
theorem dL_law_837 : decode cL_law 837 = .ok (.iaload, 1) := by decide +kernel
theorem dL_law_838 : decode cL_law 838 = .ok (.aload_n 0, 1) := by decide +kernel
theorem dL_law_839 : decode cL_law 839 = .ok (.iload 5, 2) := by decide +kernel
theorem dL_law_841 : decode cL_law 841 = .ok (.iconst 2, 1) := by decide +kernel
theorem dL_law_842 : decode cL_law 842 = .ok (.iadd, 1) := by decide +kernel
theorem dL_law_843 : decode cL_law 843 = .ok (.iaload, 1) := by decide +kernel
theorem dL_law_844 : decode cL_law 844 = .ok (.aload_n 0, 1) := by decide +kernel
theorem dL_law_845 : decode cL_law 845 = .ok (.iload 5, 2) := by decide +kernel
theorem dL_law_847 : decode cL_law 847 = .ok (.iconst 3, 1) := by decide +kernel
theorem dL_law_848 : decode cL_law 848 = .ok (.iadd, 1) := by decide +kernel
theorem dL_law_849 : decode cL_law 849 = .ok (.iaload, 1) := by decide +kernel
theorem dL_law_850 : decode cL_law 850 = .ok (.aload_n 0, 1) := by decide +kernel
theorem dL_law_851 : decode cL_law 851 = .ok (.iload 5, 2) := by decide +kernel
theorem dL_law_853 : decode cL_law 853 = .ok (.iconst 4, 1) := by decide +kernel
theorem dL_law_854 : decode cL_law 854 = .ok (.iadd, 1) := by decide +kernel
theorem dL_law_855 : decode cL_law 855 = .ok (.iaload, 1) := by decide +kernel
theorem dL_law_856 : decode cL_law 856 = .ok (.aload_n 3, 1) := by decide +kernel
theorem dL_law_857 : decode cL_law 857 = .ok (.invokestatic 118, 3) := by decide +kernel
theorem dL_law_860 : decode cL_law 860 = .ok (.istore 6, 2) := by decide +kernel
theorem dL_law_862 : decode cL_law 862 = .ok (.aload_n 2, 1) := by decide +kernel
theorem dL_law_863 : decode cL_law 863 = .ok (.aload_n 0, 1) := by decide +kernel
theorem dL_law_864 : decode cL_law 864 = .ok (.iload 5, 2) := by decide +kernel
theorem dL_law_866 : decode cL_law 866 = .ok (.iconst 1, 1) := by decide +kernel
theorem dL_law_867 : decode cL_law 867 = .ok (.iadd, 1) := by decide +kernel
theorem dL_law_868 : decode cL_law 868 = .ok (.iaload, 1) := by decide +kernel
theorem dL_law_869 : decode cL_law 869 = .ok (.aload_n 0, 1) := by decide +kernel
theorem dL_law_870 : decode cL_law 870 = .ok (.iload 5, 2) := by decide +kernel
theorem dL_law_872 : decode cL_law 872 = .ok (.iconst 2, 1) := by decide +kernel
theorem dL_law_873 : decode cL_law 873 = .ok (.iadd, 1) := by decide +kernel
theorem dL_law_874 : decode cL_law 874 = .ok (.iaload, 1) := by decide +kernel
theorem dL_law_875 : decode cL_law 875 = .ok (.aload_n 0, 1) := by decide +kernel
theorem dL_law_876 : decode cL_law 876 = .ok (.iload 5, 2) := by decide +kernel
theorem dL_law_878 : decode cL_law 878 = .ok (.iconst 3, 1) := by decide +kernel
theorem dL_law_879 : decode cL_law 879 = .ok (.iadd, 1) := by decide +kernel
theorem dL_law_880 : decode cL_law 880 = .ok (.iaload, 1) := by decide +kernel
theorem dL_law_881 : decode cL_law 881 = .ok (.aload_n 0, 1) := by decide +kernel
theorem dL_law_882 : decode cL_law 882 = .ok (.iload 5, 2) := by decide +kernel
theorem dL_law_884 : decode cL_law 884 = .ok (.iconst 4, 1) := by decide +kernel
theorem dL_law_885 : decode cL_law 885 = .ok (.iadd, 1) := by decide +kernel
theorem dL_law_886 : decode cL_law 886 = .ok (.iaload, 1) := by decide +kernel
theorem dL_law_887 : decode cL_law 887 = .ok (.invokevirtual 121, 3) := by decide +kernel
theorem dL_law_890 : decode cL_law 890 = .ok (.istore 7, 2) := by decide +kernel
theorem dL_law_892 : decode cL_law 892 = .ok (.aload_n 2, 1) := by decide +kernel
theorem dL_law_893 : decode cL_law 893 = .ok (.invokevirtual 84, 3) := by decide +kernel
theorem dL_law_896 : decode cL_law 896 = .ok (.iload 6, 2) := by decide +kernel
theorem dL_law_898 : decode cL_law 898 = .ok (.if_icmp .eq 5, 3) := by decide +kernel
theorem dL_law_901 : decode cL_law 901 = .ok (.iconst 0, 1) := by decide +kernel
theorem dL_law_902 : decode cL_law 902 = .ok (.ireturn, 1) := by decide +kernel
theorem dL_law_903 : decode cL_law 903 = .ok (.iload 6, 2) := by decide +kernel
theorem dL_law_905 : decode cL_law 905 = .ok (.ifCond .ne 15, 3) := by decide +kernel
theorem dL_law_908 : decode cL_law 908 = .ok (.aload_n 3, 1) := by decide +kernel
theorem dL_law_909 : decode cL_law 909 = .ok (.iconst 0, 1) := by decide +kernel
theorem dL_law_910 : decode cL_law 910 = .ok (.laload, 1) := by decide +kernel
theorem dL_law_911 : decode cL_law 911 = .ok (.iload 7, 2) := by decide +kernel
theorem dL_law_913 : decode cL_law 913 = .ok (.i2l, 1) := by decide +kernel
theorem dL_law_914 : decode cL_law 914 = .ok (.lcmp, 1) := by decide +kernel
theorem dL_law_915 : decode cL_law 915 = .ok (.ifCond .eq 5, 3) := by decide +kernel
theorem dL_law_918 : decode cL_law 918 = .ok (.iconst 0, 1) := by decide +kernel
theorem dL_law_919 : decode cL_law 919 = .ok (.ireturn, 1) := by decide +kernel
theorem dL_law_920 : decode cL_law 920 = .ok (.goto 548, 3) := by decide +kernel
theorem dL_law_923 : decode cL_law 923 = .ok (.aload_n 1, 1) := by decide +kernel
theorem dL_law_924 : decode cL_law 924 = .ok (.aload_n 0, 1) := by decide +kernel
theorem dL_law_925 : decode cL_law 925 = .ok (.iload 5, 2) := by decide +kernel
theorem dL_law_927 : decode cL_law 927 = .ok (.iconst 1, 1) := by decide +kernel
theorem dL_law_928 : decode cL_law 928 = .ok (.iadd, 1) := by decide +kernel
theorem dL_law_929 : decode cL_law 929 = .ok (.iaload, 1) := by decide +kernel
theorem dL_law_930 : decode cL_law 930 = .ok (.aload_n 0, 1) := by decide +kernel
theorem dL_law_931 : decode cL_law 931 = .ok (.iload 5, 2) := by decide +kernel
theorem dL_law_933 : decode cL_law 933 = .ok (.iconst 2, 1) := by decide +kernel
theorem dL_law_934 : decode cL_law 934 = .ok (.iadd, 1) := by decide +kernel
theorem dL_law_935 : decode cL_law 935 = .ok (.iaload, 1) := by decide +kernel
theorem dL_law_936 : decode cL_law 936 = .ok (.aload_n 3, 1) := by decide +kernel
theorem dL_law_937 : decode cL_law 937 = .ok (.invokestatic 122, 3) := by decide +kernel
theorem dL_law_940 : decode cL_law 940 = .ok (.istore 6, 2) := by decide +kernel
theorem dL_law_942 : decode cL_law 942 = .ok (.aload_n 2, 1) := by decide +kernel
theorem dL_law_943 : decode cL_law 943 = .ok (.aload_n 0, 1) := by decide +kernel
theorem dL_law_944 : decode cL_law 944 = .ok (.iload 5, 2) := by decide +kernel
theorem dL_law_946 : decode cL_law 946 = .ok (.iconst 1, 1) := by decide +kernel
theorem dL_law_947 : decode cL_law 947 = .ok (.iadd, 1) := by decide +kernel
theorem dL_law_948 : decode cL_law 948 = .ok (.iaload, 1) := by decide +kernel
theorem dL_law_949 : decode cL_law 949 = .ok (.aload_n 0, 1) := by decide +kernel
theorem dL_law_950 : decode cL_law 950 = .ok (.iload 5, 2) := by decide +kernel
theorem dL_law_952 : decode cL_law 952 = .ok (.iconst 2, 1) := by decide +kernel
theorem dL_law_953 : decode cL_law 953 = .ok (.iadd, 1) := by decide +kernel
theorem dL_law_954 : decode cL_law 954 = .ok (.iaload, 1) := by decide +kernel
theorem dL_law_955 : decode cL_law 955 = .ok (.invokevirtual 124, 3) := by decide +kernel
theorem dL_law_958 : decode cL_law 958 = .ok (.istore 7, 2) := by decide +kernel
theorem dL_law_960 : decode cL_law 960 = .ok (.aload_n 2, 1) := by decide +kernel
theorem dL_law_961 : decode cL_law 961 = .ok (.invokevirtual 84, 3) := by decide +kernel
theorem dL_law_964 : decode cL_law 964 = .ok (.iload 6, 2) := by decide +kernel
theorem dL_law_966 : decode cL_law 966 = .ok (.if_icmp .eq 5, 3) := by decide +kernel
theorem dL_law_969 : decode cL_law 969 = .ok (.iconst 0, 1) := by decide +kernel
theorem dL_law_970 : decode cL_law 970 = .ok (.ireturn, 1) := by decide +kernel
theorem dL_law_971 : decode cL_law 971 = .ok (.iload 6, 2) := by decide +kernel
theorem dL_law_973 : decode cL_law 973 = .ok (.ifCond .ne 15, 3) := by decide +kernel
theorem dL_law_976 : decode cL_law 976 = .ok (.aload_n 3, 1) := by decide +kernel
theorem dL_law_977 : decode cL_law 977 = .ok (.iconst 0, 1) := by decide +kernel
theorem dL_law_978 : decode cL_law 978 = .ok (.laload, 1) := by decide +kernel
theorem dL_law_979 : decode cL_law 979 = .ok (.iload 7, 2) := by decide +kernel
theorem dL_law_981 : decode cL_law 981 = .ok (.i2l, 1) := by decide +kernel
theorem dL_law_982 : decode cL_law 982 = .ok (.lcmp, 1) := by decide +kernel
theorem dL_law_983 : decode cL_law 983 = .ok (.ifCond .eq 5, 3) := by decide +kernel
theorem dL_law_986 : decode cL_law 986 = .ok (.iconst 0, 1) := by decide +kernel
theorem dL_law_987 : decode cL_law 987 = .ok (.ireturn, 1) := by decide +kernel
theorem dL_law_988 : decode cL_law 988 = .ok (.goto 480, 3) := by decide +kernel
theorem dL_law_991 : decode cL_law 991 = .ok (.aload_n 1, 1) := by decide +kernel
theorem dL_law_992 : decode cL_law 992 = .ok (.aload_n 0, 1) := by decide +kernel
theorem dL_law_993 : decode cL_law 993 = .ok (.iload 5, 2) := by decide +kernel
theorem dL_law_995 : decode cL_law 995 = .ok (.iconst 1, 1) := by decide +kernel
theorem dL_law_996 : decode cL_law 996 = .ok (.iadd, 1) := by decide +kernel
theorem dL_law_997 : decode cL_law 997 = .ok (.iaload, 1) := by decide +kernel
theorem dL_law_998 : decode cL_law 998 = .ok (.aload_n 0, 1) := by decide +kernel
theorem dL_law_999 : decode cL_law 999 = .ok (.iload 5, 2) := by decide +kernel
theorem dL_law_1001 : decode cL_law 1001 = .ok (.iconst 2, 1) := by decide +kernel
theorem dL_law_1002 : decode cL_law 1002 = .ok (.iadd, 1) := by decide +kernel
theorem dL_law_1003 : decode cL_law 1003 = .ok (.iaload, 1) := by decide +kernel
theorem dL_law_1004 : decode cL_law 1004 = .ok (.aload 4, 2) := by decide +kernel
theorem dL_law_1006 : decode cL_law 1006 = .ok (.invokestatic 125, 3) := by decide +kernel
theorem dL_law_1009 : decode cL_law 1009 = .ok (.istore 6, 2) := by decide +kernel
theorem dL_law_1011 : decode cL_law 1011 = .ok (.aload_n 2, 1) := by decide +kernel
theorem dL_law_1012 : decode cL_law 1012 = .ok (.aload_n 0, 1) := by decide +kernel
theorem dL_law_1013 : decode cL_law 1013 = .ok (.iload 5, 2) := by decide +kernel
theorem dL_law_1015 : decode cL_law 1015 = .ok (.iconst 1, 1) := by decide +kernel
theorem dL_law_1016 : decode cL_law 1016 = .ok (.iadd, 1) := by decide +kernel
theorem dL_law_1017 : decode cL_law 1017 = .ok (.iaload, 1) := by decide +kernel
theorem dL_law_1018 : decode cL_law 1018 = .ok (.aload_n 0, 1) := by decide +kernel
theorem dL_law_1019 : decode cL_law 1019 = .ok (.iload 5, 2) := by decide +kernel
theorem dL_law_1021 : decode cL_law 1021 = .ok (.iconst 2, 1) := by decide +kernel
theorem dL_law_1022 : decode cL_law 1022 = .ok (.iadd, 1) := by decide +kernel
theorem dL_law_1023 : decode cL_law 1023 = .ok (.iaload, 1) := by decide +kernel
theorem dL_law_1024 : decode cL_law 1024 = .ok (.invokevirtual 128, 3) := by decide +kernel
theorem dL_law_1027 : decode cL_law 1027 = .ok (.dstore 7, 2) := by decide +kernel
theorem dL_law_1029 : decode cL_law 1029 = .ok (.aload_n 2, 1) := by decide +kernel
theorem dL_law_1030 : decode cL_law 1030 = .ok (.invokevirtual 84, 3) := by decide +kernel
theorem dL_law_1033 : decode cL_law 1033 = .ok (.iload 6, 2) := by decide +kernel
theorem dL_law_1035 : decode cL_law 1035 = .ok (.if_icmp .eq 5, 3) := by decide +kernel
theorem dL_law_1038 : decode cL_law 1038 = .ok (.iconst 0, 1) := by decide +kernel
theorem dL_law_1039 : decode cL_law 1039 = .ok (.ireturn, 1) := by decide +kernel
theorem dL_law_1040 : decode cL_law 1040 = .ok (.iload 6, 2) := by decide +kernel
theorem dL_law_1042 : decode cL_law 1042 = .ok (.ifCond .ne 35, 3) := by decide +kernel
theorem dL_law_1045 : decode cL_law 1045 = .ok (.aload 4, 2) := by decide +kernel
theorem dL_law_1047 : decode cL_law 1047 = .ok (.iconst 0, 1) := by decide +kernel
theorem dL_law_1048 : decode cL_law 1048 = .ok (.daload, 1) := by decide +kernel
theorem dL_law_1049 : decode cL_law 1049 = .ok (.dload 7, 2) := by decide +kernel
theorem dL_law_1051 : decode cL_law 1051 = .ok (.dcmp .l, 1) := by decide +kernel
theorem dL_law_1052 : decode cL_law 1052 = .ok (.ifCond .eq 25, 3) := by decide +kernel
theorem dL_law_1055 : decode cL_law 1055 = .ok (.aload 4, 2) := by decide +kernel
theorem dL_law_1057 : decode cL_law 1057 = .ok (.iconst 0, 1) := by decide +kernel
theorem dL_law_1058 : decode cL_law 1058 = .ok (.daload, 1) := by decide +kernel
theorem dL_law_1059 : decode cL_law 1059 = .ok (.aload 4, 2) := by decide +kernel
theorem dL_law_1061 : decode cL_law 1061 = .ok (.iconst 0, 1) := by decide +kernel
theorem dL_law_1062 : decode cL_law 1062 = .ok (.daload, 1) := by decide +kernel
theorem dL_law_1063 : decode cL_law 1063 = .ok (.dcmp .l, 1) := by decide +kernel
theorem dL_law_1064 : decode cL_law 1064 = .ok (.ifCond .eq 11, 3) := by decide +kernel
theorem dL_law_1067 : decode cL_law 1067 = .ok (.dload 7, 2) := by decide +kernel
theorem dL_law_1069 : decode cL_law 1069 = .ok (.dload 7, 2) := by decide +kernel
theorem dL_law_1071 : decode cL_law 1071 = .ok (.dcmp .l, 1) := by decide +kernel
theorem dL_law_1072 : decode cL_law 1072 = .ok (.ifCond .ne 5, 3) := by decide +kernel
theorem dL_law_1075 : decode cL_law 1075 = .ok (.iconst 0, 1) := by decide +kernel
theorem dL_law_1076 : decode cL_law 1076 = .ok (.ireturn, 1) := by decide +kernel
theorem dL_law_1077 : decode cL_law 1077 = .ok (.goto 391, 3) := by decide +kernel
theorem dL_law_1080 : decode cL_law 1080 = .ok (.aload_n 1, 1) := by decide +kernel
theorem dL_law_1081 : decode cL_law 1081 = .ok (.aload_n 0, 1) := by decide +kernel
theorem dL_law_1082 : decode cL_law 1082 = .ok (.iload 5, 2) := by decide +kernel
theorem dL_law_1084 : decode cL_law 1084 = .ok (.iconst 1, 1) := by decide +kernel
theorem dL_law_1085 : decode cL_law 1085 = .ok (.iadd, 1) := by decide +kernel
theorem dL_law_1086 : decode cL_law 1086 = .ok (.iaload, 1) := by decide +kernel
theorem dL_law_1087 : decode cL_law 1087 = .ok (.aload_n 0, 1) := by decide +kernel
theorem dL_law_1088 : decode cL_law 1088 = .ok (.iload 5, 2) := by decide +kernel
theorem dL_law_1090 : decode cL_law 1090 = .ok (.iconst 2, 1) := by decide +kernel
theorem dL_law_1091 : decode cL_law 1091 = .ok (.iadd, 1) := by decide +kernel
theorem dL_law_1092 : decode cL_law 1092 = .ok (.iaload, 1) := by decide +kernel
theorem dL_law_1093 : decode cL_law 1093 = .ok (.aload_n 3, 1) := by decide +kernel
theorem dL_law_1094 : decode cL_law 1094 = .ok (.invokestatic 129, 3) := by decide +kernel
theorem dL_law_1097 : decode cL_law 1097 = .ok (.istore 6, 2) := by decide +kernel
theorem dL_law_1099 : decode cL_law 1099 = .ok (.aload_n 2, 1) := by decide +kernel
theorem dL_law_1100 : decode cL_law 1100 = .ok (.aload_n 0, 1) := by decide +kernel
theorem dL_law_1101 : decode cL_law 1101 = .ok (.iload 5, 2) := by decide +kernel
theorem dL_law_1103 : decode cL_law 1103 = .ok (.iconst 1, 1) := by decide +kernel
theorem dL_law_1104 : decode cL_law 1104 = .ok (.iadd, 1) := by decide +kernel
theorem dL_law_1105 : decode cL_law 1105 = .ok (.iaload, 1) := by decide +kernel
theorem dL_law_1106 : decode cL_law 1106 = .ok (.aload_n 0, 1) := by decide +kernel
theorem dL_law_1107 : decode cL_law 1107 = .ok (.iload 5, 2) := by decide +kernel
theorem dL_law_1109 : decode cL_law 1109 = .ok (.iconst 2, 1) := by decide +kernel
theorem dL_law_1110 : decode cL_law 1110 = .ok (.iadd, 1) := by decide +kernel
theorem dL_law_1111 : decode cL_law 1111 = .ok (.iaload, 1) := by decide +kernel
theorem dL_law_1112 : decode cL_law 1112 = .ok (.invokevirtual 131, 3) := by decide +kernel
theorem dL_law_1115 : decode cL_law 1115 = .ok (.istore 7, 2) := by decide +kernel
theorem dL_law_1117 : decode cL_law 1117 = .ok (.aload_n 2, 1) := by decide +kernel
theorem dL_law_1118 : decode cL_law 1118 = .ok (.invokevirtual 84, 3) := by decide +kernel
theorem dL_law_1121 : decode cL_law 1121 = .ok (.iload 6, 2) := by decide +kernel
theorem dL_law_1123 : decode cL_law 1123 = .ok (.if_icmp .eq 5, 3) := by decide +kernel
theorem dL_law_1126 : decode cL_law 1126 = .ok (.iconst 0, 1) := by decide +kernel
theorem dL_law_1127 : decode cL_law 1127 = .ok (.ireturn, 1) := by decide +kernel
theorem dL_law_1128 : decode cL_law 1128 = .ok (.iload 6, 2) := by decide +kernel
theorem dL_law_1130 : decode cL_law 1130 = .ok (.ifCond .ne 15, 3) := by decide +kernel
theorem dL_law_1133 : decode cL_law 1133 = .ok (.aload_n 3, 1) := by decide +kernel
theorem dL_law_1134 : decode cL_law 1134 = .ok (.iconst 0, 1) := by decide +kernel
theorem dL_law_1135 : decode cL_law 1135 = .ok (.laload, 1) := by decide +kernel
theorem dL_law_1136 : decode cL_law 1136 = .ok (.iload 7, 2) := by decide +kernel
theorem dL_law_1138 : decode cL_law 1138 = .ok (.i2l, 1) := by decide +kernel
theorem dL_law_1139 : decode cL_law 1139 = .ok (.lcmp, 1) := by decide +kernel
theorem dL_law_1140 : decode cL_law 1140 = .ok (.ifCond .eq 5, 3) := by decide +kernel
theorem dL_law_1143 : decode cL_law 1143 = .ok (.iconst 0, 1) := by decide +kernel
theorem dL_law_1144 : decode cL_law 1144 = .ok (.ireturn, 1) := by decide +kernel
theorem dL_law_1145 : decode cL_law 1145 = .ok (.goto 323, 3) := by decide +kernel
theorem dL_law_1148 : decode cL_law 1148 = .ok (.aload_n 1, 1) := by decide +kernel
theorem dL_law_1149 : decode cL_law 1149 = .ok (.aload_n 0, 1) := by decide +kernel
theorem dL_law_1150 : decode cL_law 1150 = .ok (.iload 5, 2) := by decide +kernel
theorem dL_law_1152 : decode cL_law 1152 = .ok (.iconst 1, 1) := by decide +kernel
theorem dL_law_1153 : decode cL_law 1153 = .ok (.iadd, 1) := by decide +kernel
theorem dL_law_1154 : decode cL_law 1154 = .ok (.iaload, 1) := by decide +kernel
theorem dL_law_1155 : decode cL_law 1155 = .ok (.aload_n 3, 1) := by decide +kernel
theorem dL_law_1156 : decode cL_law 1156 = .ok (.invokestatic 132, 3) := by decide +kernel
theorem dL_law_1159 : decode cL_law 1159 = .ok (.istore 6, 2) := by decide +kernel
theorem dL_law_1161 : decode cL_law 1161 = .ok (.aload_n 2, 1) := by decide +kernel
theorem dL_law_1162 : decode cL_law 1162 = .ok (.aload_n 0, 1) := by decide +kernel
theorem dL_law_1163 : decode cL_law 1163 = .ok (.iload 5, 2) := by decide +kernel
theorem dL_law_1165 : decode cL_law 1165 = .ok (.iconst 1, 1) := by decide +kernel
theorem dL_law_1166 : decode cL_law 1166 = .ok (.iadd, 1) := by decide +kernel
theorem dL_law_1167 : decode cL_law 1167 = .ok (.iaload, 1) := by decide +kernel
theorem dL_law_1168 : decode cL_law 1168 = .ok (.invokevirtual 134, 3) := by decide +kernel
theorem dL_law_1171 : decode cL_law 1171 = .ok (.istore 7, 2) := by decide +kernel
theorem dL_law_1173 : decode cL_law 1173 = .ok (.aload_n 2, 1) := by decide +kernel
theorem dL_law_1174 : decode cL_law 1174 = .ok (.invokevirtual 84, 3) := by decide +kernel
theorem dL_law_1177 : decode cL_law 1177 = .ok (.iload 6, 2) := by decide +kernel
theorem dL_law_1179 : decode cL_law 1179 = .ok (.if_icmp .eq 5, 3) := by decide +kernel
theorem dL_law_1182 : decode cL_law 1182 = .ok (.iconst 0, 1) := by decide +kernel
theorem dL_law_1183 : decode cL_law 1183 = .ok (.ireturn, 1) := by decide +kernel
theorem dL_law_1184 : decode cL_law 1184 = .ok (.iload 6, 2) := by decide +kernel
theorem dL_law_1186 : decode cL_law 1186 = .ok (.ifCond .ne 15, 3) := by decide +kernel
theorem dL_law_1189 : decode cL_law 1189 = .ok (.aload_n 3, 1) := by decide +kernel
theorem dL_law_1190 : decode cL_law 1190 = .ok (.iconst 0, 1) := by decide +kernel
theorem dL_law_1191 : decode cL_law 1191 = .ok (.laload, 1) := by decide +kernel
theorem dL_law_1192 : decode cL_law 1192 = .ok (.iload 7, 2) := by decide +kernel
theorem dL_law_1194 : decode cL_law 1194 = .ok (.i2l, 1) := by decide +kernel
theorem dL_law_1195 : decode cL_law 1195 = .ok (.lcmp, 1) := by decide +kernel
theorem dL_law_1196 : decode cL_law 1196 = .ok (.ifCond .eq 5, 3) := by decide +kernel
theorem dL_law_1199 : decode cL_law 1199 = .ok (.iconst 0, 1) := by decide +kernel
theorem dL_law_1200 : decode cL_law 1200 = .ok (.ireturn, 1) := by decide +kernel
theorem dL_law_1201 : decode cL_law 1201 = .ok (.goto 267, 3) := by decide +kernel
theorem dL_law_1204 : decode cL_law 1204 = .ok (.aload_n 1, 1) := by decide +kernel
theorem dL_law_1205 : decode cL_law 1205 = .ok (.aload_n 0, 1) := by decide +kernel
theorem dL_law_1206 : decode cL_law 1206 = .ok (.iload 5, 2) := by decide +kernel
theorem dL_law_1208 : decode cL_law 1208 = .ok (.iconst 1, 1) := by decide +kernel
theorem dL_law_1209 : decode cL_law 1209 = .ok (.iadd, 1) := by decide +kernel
theorem dL_law_1210 : decode cL_law 1210 = .ok (.iaload, 1) := by decide +kernel
theorem dL_law_1211 : decode cL_law 1211 = .ok (.aload_n 3, 1) := by decide +kernel
theorem dL_law_1212 : decode cL_law 1212 = .ok (.invokestatic 135, 3) := by decide +kernel
theorem dL_law_1215 : decode cL_law 1215 = .ok (.istore 6, 2) := by decide +kernel
theorem dL_law_1217 : decode cL_law 1217 = .ok (.aload_n 2, 1) := by decide +kernel
theorem dL_law_1218 : decode cL_law 1218 = .ok (.aload_n 0, 1) := by decide +kernel
theorem dL_law_1219 : decode cL_law 1219 = .ok (.iload 5, 2) := by decide +kernel
theorem dL_law_1221 : decode cL_law 1221 = .ok (.iconst 1, 1) := by decide +kernel
theorem dL_law_1222 : decode cL_law 1222 = .ok (.iadd, 1) := by decide +kernel
theorem dL_law_1223 : decode cL_law 1223 = .ok (.iaload, 1) := by decide +kernel
theorem dL_law_1224 : decode cL_law 1224 = .ok (.invokevirtual 137, 3) := by decide +kernel
theorem dL_law_1227 : decode cL_law 1227 = .ok (.istore 7, 2) := by decide +kernel
theorem dL_law_1229 : decode cL_law 1229 = .ok (.aload_n 2, 1) := by decide +kernel
theorem dL_law_1230 : decode cL_law 1230 = .ok (.invokevirtual 84, 3) := by decide +kernel
theorem dL_law_1233 : decode cL_law 1233 = .ok (.iload 6, 2) := by decide +kernel
theorem dL_law_1235 : decode cL_law 1235 = .ok (.if_icmp .eq 5, 3) := by decide +kernel
theorem dL_law_1238 : decode cL_law 1238 = .ok (.iconst 0, 1) := by decide +kernel
theorem dL_law_1239 : decode cL_law 1239 = .ok (.ireturn, 1) := by decide +kernel
theorem dL_law_1240 : decode cL_law 1240 = .ok (.iload 6, 2) := by decide +kernel
theorem dL_law_1242 : decode cL_law 1242 = .ok (.ifCond .ne 15, 3) := by decide +kernel
theorem dL_law_1245 : decode cL_law 1245 = .ok (.aload_n 3, 1) := by decide +kernel
theorem dL_law_1246 : decode cL_law 1246 = .ok (.iconst 0, 1) := by decide +kernel
theorem dL_law_1247 : decode cL_law 1247 = .ok (.laload, 1) := by decide +kernel
theorem dL_law_1248 : decode cL_law 1248 = .ok (.iload 7, 2) := by decide +kernel
theorem dL_law_1250 : decode cL_law 1250 = .ok (.i2l, 1) := by decide +kernel
theorem dL_law_1251 : decode cL_law 1251 = .ok (.lcmp, 1) := by decide +kernel
theorem dL_law_1252 : decode cL_law 1252 = .ok (.ifCond .eq 5, 3) := by decide +kernel
theorem dL_law_1255 : decode cL_law 1255 = .ok (.iconst 0, 1) := by decide +kernel
theorem dL_law_1256 : decode cL_law 1256 = .ok (.ireturn, 1) := by decide +kernel
theorem dL_law_1257 : decode cL_law 1257 = .ok (.goto 211, 3) := by decide +kernel
theorem dL_law_1260 : decode cL_law 1260 = .ok (.aload_n 1, 1) := by decide +kernel
theorem dL_law_1261 : decode cL_law 1261 = .ok (.aload_n 0, 1) := by decide +kernel
theorem dL_law_1262 : decode cL_law 1262 = .ok (.iload 5, 2) := by decide +kernel
theorem dL_law_1264 : decode cL_law 1264 = .ok (.iconst 1, 1) := by decide +kernel
theorem dL_law_1265 : decode cL_law 1265 = .ok (.iadd, 1) := by decide +kernel
theorem dL_law_1266 : decode cL_law 1266 = .ok (.iaload, 1) := by decide +kernel
theorem dL_law_1267 : decode cL_law 1267 = .ok (.aload 4, 2) := by decide +kernel
theorem dL_law_1269 : decode cL_law 1269 = .ok (.invokestatic 138, 3) := by decide +kernel
theorem dL_law_1272 : decode cL_law 1272 = .ok (.istore 6, 2) := by decide +kernel
theorem dL_law_1274 : decode cL_law 1274 = .ok (.aload_n 2, 1) := by decide +kernel
theorem dL_law_1275 : decode cL_law 1275 = .ok (.aload_n 0, 1) := by decide +kernel
theorem dL_law_1276 : decode cL_law 1276 = .ok (.iload 5, 2) := by decide +kernel
theorem dL_law_1278 : decode cL_law 1278 = .ok (.iconst 1, 1) := by decide +kernel
theorem dL_law_1279 : decode cL_law 1279 = .ok (.iadd, 1) := by decide +kernel
theorem dL_law_1280 : decode cL_law 1280 = .ok (.iaload, 1) := by decide +kernel
theorem dL_law_1281 : decode cL_law 1281 = .ok (.invokevirtual 141, 3) := by decide +kernel
theorem dL_law_1284 : decode cL_law 1284 = .ok (.dstore 7, 2) := by decide +kernel
theorem dL_law_1286 : decode cL_law 1286 = .ok (.aload_n 2, 1) := by decide +kernel
theorem dL_law_1287 : decode cL_law 1287 = .ok (.invokevirtual 84, 3) := by decide +kernel
theorem dL_law_1290 : decode cL_law 1290 = .ok (.iload 6, 2) := by decide +kernel
theorem dL_law_1292 : decode cL_law 1292 = .ok (.if_icmp .eq 5, 3) := by decide +kernel
theorem dL_law_1295 : decode cL_law 1295 = .ok (.iconst 0, 1) := by decide +kernel
theorem dL_law_1296 : decode cL_law 1296 = .ok (.ireturn, 1) := by decide +kernel
theorem dL_law_1297 : decode cL_law 1297 = .ok (.iload 6, 2) := by decide +kernel
theorem dL_law_1299 : decode cL_law 1299 = .ok (.ifCond .ne 35, 3) := by decide +kernel
theorem dL_law_1302 : decode cL_law 1302 = .ok (.aload 4, 2) := by decide +kernel
theorem dL_law_1304 : decode cL_law 1304 = .ok (.iconst 0, 1) := by decide +kernel
theorem dL_law_1305 : decode cL_law 1305 = .ok (.daload, 1) := by decide +kernel
theorem dL_law_1306 : decode cL_law 1306 = .ok (.dload 7, 2) := by decide +kernel
theorem dL_law_1308 : decode cL_law 1308 = .ok (.dcmp .l, 1) := by decide +kernel
theorem dL_law_1309 : decode cL_law 1309 = .ok (.ifCond .eq 25, 3) := by decide +kernel
theorem dL_law_1312 : decode cL_law 1312 = .ok (.aload 4, 2) := by decide +kernel
theorem dL_law_1314 : decode cL_law 1314 = .ok (.iconst 0, 1) := by decide +kernel
theorem dL_law_1315 : decode cL_law 1315 = .ok (.daload, 1) := by decide +kernel
theorem dL_law_1316 : decode cL_law 1316 = .ok (.aload 4, 2) := by decide +kernel
theorem dL_law_1318 : decode cL_law 1318 = .ok (.iconst 0, 1) := by decide +kernel
theorem dL_law_1319 : decode cL_law 1319 = .ok (.daload, 1) := by decide +kernel
theorem dL_law_1320 : decode cL_law 1320 = .ok (.dcmp .l, 1) := by decide +kernel
theorem dL_law_1321 : decode cL_law 1321 = .ok (.ifCond .eq 11, 3) := by decide +kernel
theorem dL_law_1324 : decode cL_law 1324 = .ok (.dload 7, 2) := by decide +kernel
theorem dL_law_1326 : decode cL_law 1326 = .ok (.dload 7, 2) := by decide +kernel
theorem dL_law_1328 : decode cL_law 1328 = .ok (.dcmp .l, 1) := by decide +kernel
theorem dL_law_1329 : decode cL_law 1329 = .ok (.ifCond .ne 5, 3) := by decide +kernel
theorem dL_law_1332 : decode cL_law 1332 = .ok (.iconst 0, 1) := by decide +kernel
theorem dL_law_1333 : decode cL_law 1333 = .ok (.ireturn, 1) := by decide +kernel
theorem dL_law_1334 : decode cL_law 1334 = .ok (.goto 134, 3) := by decide +kernel
theorem dL_law_1337 : decode cL_law 1337 = .ok (.aload_n 1, 1) := by decide +kernel
theorem dL_law_1338 : decode cL_law 1338 = .ok (.aload_n 0, 1) := by decide +kernel
theorem dL_law_1339 : decode cL_law 1339 = .ok (.iload 5, 2) := by decide +kernel
theorem dL_law_1341 : decode cL_law 1341 = .ok (.iconst 1, 1) := by decide +kernel
theorem dL_law_1342 : decode cL_law 1342 = .ok (.iadd, 1) := by decide +kernel
theorem dL_law_1343 : decode cL_law 1343 = .ok (.iaload, 1) := by decide +kernel
theorem dL_law_1344 : decode cL_law 1344 = .ok (.i2d, 1) := by decide +kernel
theorem dL_law_1345 : decode cL_law 1345 = .ok (.ldc2_w 142, 3) := by decide +kernel
theorem dL_law_1348 : decode cL_law 1348 = .ok (.dmul, 1) := by decide +kernel
theorem dL_law_1349 : decode cL_law 1349 = .ok (.invokevirtual 144, 3) := by decide +kernel
theorem dL_law_1352 : decode cL_law 1352 = .ok (.dstore 6, 2) := by decide +kernel
theorem dL_law_1354 : decode cL_law 1354 = .ok (.aload_n 2, 1) := by decide +kernel
theorem dL_law_1355 : decode cL_law 1355 = .ok (.aload_n 0, 1) := by decide +kernel
theorem dL_law_1356 : decode cL_law 1356 = .ok (.iload 5, 2) := by decide +kernel
theorem dL_law_1358 : decode cL_law 1358 = .ok (.iconst 1, 1) := by decide +kernel
theorem dL_law_1359 : decode cL_law 1359 = .ok (.iadd, 1) := by decide +kernel
theorem dL_law_1360 : decode cL_law 1360 = .ok (.iaload, 1) := by decide +kernel
theorem dL_law_1361 : decode cL_law 1361 = .ok (.i2d, 1) := by decide +kernel
theorem dL_law_1362 : decode cL_law 1362 = .ok (.ldc2_w 142, 3) := by decide +kernel
theorem dL_law_1365 : decode cL_law 1365 = .ok (.dmul, 1) := by decide +kernel
theorem dL_law_1366 : decode cL_law 1366 = .ok (.invokevirtual 148, 3) := by decide +kernel
theorem dL_law_1369 : decode cL_law 1369 = .ok (.dstore 8, 2) := by decide +kernel
theorem dL_law_1371 : decode cL_law 1371 = .ok (.dload 6, 2) := by decide +kernel
theorem dL_law_1373 : decode cL_law 1373 = .ok (.dload 8, 2) := by decide +kernel
theorem dL_law_1375 : decode cL_law 1375 = .ok (.dcmp .l, 1) := by decide +kernel
theorem dL_law_1376 : decode cL_law 1376 = .ok (.ifCond .eq 21, 3) := by decide +kernel
theorem dL_law_1379 : decode cL_law 1379 = .ok (.dload 6, 2) := by decide +kernel
theorem dL_law_1381 : decode cL_law 1381 = .ok (.dload 6, 2) := by decide +kernel
theorem dL_law_1383 : decode cL_law 1383 = .ok (.dcmp .l, 1) := by decide +kernel
theorem dL_law_1384 : decode cL_law 1384 = .ok (.ifCond .eq 11, 3) := by decide +kernel
theorem dL_law_1387 : decode cL_law 1387 = .ok (.dload 8, 2) := by decide +kernel
theorem dL_law_1389 : decode cL_law 1389 = .ok (.dload 8, 2) := by decide +kernel
theorem dL_law_1391 : decode cL_law 1391 = .ok (.dcmp .l, 1) := by decide +kernel
theorem dL_law_1392 : decode cL_law 1392 = .ok (.ifCond .ne 5, 3) := by decide +kernel
theorem dL_law_1395 : decode cL_law 1395 = .ok (.iconst 0, 1) := by decide +kernel
theorem dL_law_1396 : decode cL_law 1396 = .ok (.ireturn, 1) := by decide +kernel
theorem dL_law_1397 : decode cL_law 1397 = .ok (.goto 71, 3) := by decide +kernel
theorem dL_law_1400 : decode cL_law 1400 = .ok (.aload_n 1, 1) := by decide +kernel
theorem dL_law_1401 : decode cL_law 1401 = .ok (.aload_n 0, 1) := by decide +kernel
theorem dL_law_1402 : decode cL_law 1402 = .ok (.iload 5, 2) := by decide +kernel
theorem dL_law_1404 : decode cL_law 1404 = .ok (.iconst 1, 1) := by decide +kernel
theorem dL_law_1405 : decode cL_law 1405 = .ok (.iadd, 1) := by decide +kernel
theorem dL_law_1406 : decode cL_law 1406 = .ok (.iaload, 1) := by decide +kernel
theorem dL_law_1407 : decode cL_law 1407 = .ok (.aload_n 0, 1) := by decide +kernel
theorem dL_law_1408 : decode cL_law 1408 = .ok (.iload 5, 2) := by decide +kernel
theorem dL_law_1410 : decode cL_law 1410 = .ok (.iconst 2, 1) := by decide +kernel
theorem dL_law_1411 : decode cL_law 1411 = .ok (.iadd, 1) := by decide +kernel
theorem dL_law_1412 : decode cL_law 1412 = .ok (.iaload, 1) := by decide +kernel
theorem dL_law_1413 : decode cL_law 1413 = .ok (.aload_n 3, 1) := by decide +kernel
theorem dL_law_1414 : decode cL_law 1414 = .ok (.invokestatic 149, 3) := by decide +kernel
theorem dL_law_1417 : decode cL_law 1417 = .ok (.istore 6, 2) := by decide +kernel
theorem dL_law_1419 : decode cL_law 1419 = .ok (.aload_n 2, 1) := by decide +kernel
theorem dL_law_1420 : decode cL_law 1420 = .ok (.aload_n 0, 1) := by decide +kernel
theorem dL_law_1421 : decode cL_law 1421 = .ok (.iload 5, 2) := by decide +kernel
theorem dL_law_1423 : decode cL_law 1423 = .ok (.iconst 1, 1) := by decide +kernel
theorem dL_law_1424 : decode cL_law 1424 = .ok (.iadd, 1) := by decide +kernel
theorem dL_law_1425 : decode cL_law 1425 = .ok (.iaload, 1) := by decide +kernel
theorem dL_law_1426 : decode cL_law 1426 = .ok (.aload_n 0, 1) := by decide +kernel
theorem dL_law_1427 : decode cL_law 1427 = .ok (.iload 5, 2) := by decide +kernel
theorem dL_law_1429 : decode cL_law 1429 = .ok (.iconst 2, 1) := by decide +kernel
theorem dL_law_1430 : decode cL_law 1430 = .ok (.iadd, 1) := by decide +kernel
theorem dL_law_1431 : decode cL_law 1431 = .ok (.iaload, 1) := by decide +kernel
theorem dL_law_1432 : decode cL_law 1432 = .ok (.invokevirtual 151, 3) := by decide +kernel
theorem dL_law_1435 : decode cL_law 1435 = .ok (.istore 7, 2) := by decide +kernel
theorem dL_law_1437 : decode cL_law 1437 = .ok (.aload_n 2, 1) := by decide +kernel
theorem dL_law_1438 : decode cL_law 1438 = .ok (.invokevirtual 84, 3) := by decide +kernel
theorem dL_law_1441 : decode cL_law 1441 = .ok (.iload 6, 2) := by decide +kernel
theorem dL_law_1443 : decode cL_law 1443 = .ok (.if_icmp .eq 5, 3) := by decide +kernel
theorem dL_law_1446 : decode cL_law 1446 = .ok (.iconst 0, 1) := by decide +kernel
theorem dL_law_1447 : decode cL_law 1447 = .ok (.ireturn, 1) := by decide +kernel
theorem dL_law_1448 : decode cL_law 1448 = .ok (.iload 6, 2) := by decide +kernel
theorem dL_law_1450 : decode cL_law 1450 = .ok (.ifCond .ne 15, 3) := by decide +kernel
theorem dL_law_1453 : decode cL_law 1453 = .ok (.aload_n 3, 1) := by decide +kernel
theorem dL_law_1454 : decode cL_law 1454 = .ok (.iconst 0, 1) := by decide +kernel
theorem dL_law_1455 : decode cL_law 1455 = .ok (.laload, 1) := by decide +kernel
theorem dL_law_1456 : decode cL_law 1456 = .ok (.iload 7, 2) := by decide +kernel
theorem dL_law_1458 : decode cL_law 1458 = .ok (.i2l, 1) := by decide +kernel
theorem dL_law_1459 : decode cL_law 1459 = .ok (.lcmp, 1) := by decide +kernel
theorem dL_law_1460 : decode cL_law 1460 = .ok (.ifCond .eq 5, 3) := by decide +kernel
theorem dL_law_1463 : decode cL_law 1463 = .ok (.iconst 0, 1) := by decide +kernel
theorem dL_law_1464 : decode cL_law 1464 = .ok (.ireturn, 1) := by decide +kernel
theorem dL_law_1465 : decode cL_law 1465 = .ok (.goto 3, 3) := by decide +kernel
theorem dL_law_1468 : decode cL_law 1468 = .ok (.iinc 5 6, 3) := by decide +kernel
theorem dL_law_1471 : decode cL_law 1471 = .ok (.goto (-1443), 3) := by decide +kernel
theorem dL_law_1474 : decode cL_law 1474 = .ok (.iconst 1, 1) := by decide +kernel
theorem dL_law_1475 : decode cL_law 1475 = .ok (.ireturn, 1) := by decide +kernel
abbrev vwCl : List vw_C := [(RX0, TX0, 6), (RX1, TX1, 3), (RX2, TX2, 5), (RX3, TX3, 3), (RX4, TX4, 4), (RX6, TX6, 3), (RX7, TX7, 3), (RX8, TX8, 4), (RX9, TX9, 9), (RX10, TX10, 32)]
