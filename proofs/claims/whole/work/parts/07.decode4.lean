theorem dX12_lays_36 : decode cX12_lays 36 = .ok (.iload_n 3, 1) := by decide +kernel
theorem dX12_lays_37 : decode cX12_lays 37 = .ok (.iastore, 1) := by decide +kernel
theorem dX12_lays_38 : decode cX12_lays 38 = .ok (.aload_n 0, 1) := by decide +kernel
theorem dX12_lays_39 : decode cX12_lays 39 = .ok (.getfield 10, 3) := by decide +kernel
theorem dX12_lays_42 : decode cX12_lays 42 = .ok (.iload 5, 2) := by decide +kernel
theorem dX12_lays_44 : decode cX12_lays 44 = .ok (.iconst 2, 1) := by decide +kernel
theorem dX12_lays_45 : decode cX12_lays 45 = .ok (.iadd, 1) := by decide +kernel
theorem dX12_lays_46 : decode cX12_lays 46 = .ok (.iload 4, 2) := by decide +kernel
theorem dX12_lays_48 : decode cX12_lays 48 = .ok (.iastore, 1) := by decide +kernel
theorem dX12_lays_49 : decode cX12_lays 49 = .ok (.aload_n 0, 1) := by decide +kernel
theorem dX12_lays_50 : decode cX12_lays 50 = .ok (.getfield 10, 3) := by decide +kernel
theorem dX12_lays_53 : decode cX12_lays 53 = .ok (.iload_n 1, 1) := by decide +kernel
theorem dX12_lays_54 : decode cX12_lays 54 = .ok (.sipush 774, 3) := by decide +kernel
theorem dX12_lays_57 : decode cX12_lays 57 = .ok (.iadd, 1) := by decide +kernel
theorem dX12_lays_58 : decode cX12_lays 58 = .ok (.dup2, 1) := by decide +kernel
theorem dX12_lays_59 : decode cX12_lays 59 = .ok (.iaload, 1) := by decide +kernel
theorem dX12_lays_60 : decode cX12_lays 60 = .ok (.iconst 1, 1) := by decide +kernel
theorem dX12_lays_61 : decode cX12_lays 61 = .ok (.iadd, 1) := by decide +kernel
theorem dX12_lays_62 : decode cX12_lays 62 = .ok (.iastore, 1) := by decide +kernel
theorem dX12_lays_63 : decode cX12_lays 63 = .ok (.return_, 1) := by decide +kernel
theorem dX12_isIn_0 : decode cX12_isIn 0 = .ok (.aload_n 0, 1) := by decide +kernel
theorem dX12_isIn_1 : decode cX12_isIn 1 = .ok (.getfield 10, 3) := by decide +kernel
theorem dX12_isIn_4 : decode cX12_isIn 4 = .ok (.iload_n 1, 1) := by decide +kernel
theorem dX12_isIn_5 : decode cX12_isIn 5 = .ok (.sipush 773, 3) := by decide +kernel
theorem dX12_isIn_8 : decode cX12_isIn 8 = .ok (.iadd, 1) := by decide +kernel
theorem dX12_isIn_9 : decode cX12_isIn 9 = .ok (.iaload, 1) := by decide +kernel
theorem dX12_isIn_10 : decode cX12_isIn 10 = .ok (.iload_n 2, 1) := by decide +kernel
theorem dX12_isIn_11 : decode cX12_isIn 11 = .ok (.iand, 1) := by decide +kernel
theorem dX12_isIn_12 : decode cX12_isIn 12 = .ok (.ifCond .ne 7, 3) := by decide +kernel
theorem dX12_isIn_15 : decode cX12_isIn 15 = .ok (.iconst 1, 1) := by decide +kernel
theorem dX12_isIn_16 : decode cX12_isIn 16 = .ok (.goto 4, 3) := by decide +kernel
theorem dX12_isIn_19 : decode cX12_isIn 19 = .ok (.iconst 0, 1) := by decide +kernel
theorem dX12_isIn_20 : decode cX12_isIn 20 = .ok (.ireturn, 1) := by decide +kernel
set_option maxRecDepth 20000 in
theorem ggX12_flushes_X12_isIn : GoodIn wsX12_flushes wsX12_isIn := goodIn_r _ [5, 6, 11, 12, 13, 14, 15, 16, 17, 18, 19, 20, 21, 22, 23, 24, 25, 26, 27, 28, 29, 30, 31, 32, 33, 34, 35, 36, 37, 38, 39, 40, 41, 42, 43, 44, 45, 46, 47, 48, 49, 50, 51, 52, 53, 54, 55, 56, 57, 58, 59, 60, 61] (by decide +kernel) (by decide +kernel)
set_option maxRecDepth 20000 in
theorem gX12_flushes_X12_isIn : GoodIn wsX12_flushes (wsV RX12 130 RX12 yX12_isIn wsX12_isIn) := goodIn_app (goodIn_of _ (by decide +kernel)) ggX12_flushes_X12_isIn
set_option maxRecDepth 20000 in
theorem ggX12_flushes_X12_lays : GoodIn wsX12_flushes wsX12_lays := goodIn_r _ [10, 6, 11, 12, 13, 14, 15, 16, 17, 18, 19, 20, 21, 22, 23, 24, 25, 26, 27, 28, 29, 30, 31, 32, 33, 34, 35, 36, 37, 38, 39, 40, 41, 42, 43, 44, 45, 46, 47, 48, 49, 50, 51, 52, 53, 54, 55, 56, 57, 58, 59, 60, 61] (by decide +kernel) (by decide +kernel)
set_option maxRecDepth 20000 in
theorem gX12_flushes_X12_lays : GoodIn wsX12_flushes (wsV RX12 134 RX12 yX12_lays wsX12_lays) := goodIn_app (goodIn_of _ (by decide +kernel)) ggX12_flushes_X12_lays
theorem dX12_flushes_0 : decode cX12_flushes 0 = .ok (.aload_n 0, 1) := by decide +kernel
theorem dX12_flushes_1 : decode cX12_flushes 1 = .ok (.iload_n 1, 1) := by decide +kernel
theorem dX12_flushes_2 : decode cX12_flushes 2 = .ok (.iload_n 2, 1) := by decide +kernel
theorem dX12_flushes_3 : decode cX12_flushes 3 = .ok (.invokevirtual 130, 3) := by decide +kernel
theorem dX12_flushes_6 : decode cX12_flushes 6 = .ok (.ifCond .eq 11, 3) := by decide +kernel
theorem dX12_flushes_9 : decode cX12_flushes 9 = .ok (.aload_n 0, 1) := by decide +kernel
theorem dX12_flushes_10 : decode cX12_flushes 10 = .ok (.iload_n 1, 1) := by decide +kernel
theorem dX12_flushes_11 : decode cX12_flushes 11 = .ok (.iconst 1, 1) := by decide +kernel
theorem dX12_flushes_12 : decode cX12_flushes 12 = .ok (.iload_n 3, 1) := by decide +kernel
theorem dX12_flushes_13 : decode cX12_flushes 13 = .ok (.iconst (-1), 1) := by decide +kernel
theorem dX12_flushes_14 : decode cX12_flushes 14 = .ok (.invokevirtual 134, 3) := by decide +kernel
theorem dX12_flushes_17 : decode cX12_flushes 17 = .ok (.return_, 1) := by decide +kernel
set_option maxRecDepth 20000 in
theorem ggX12_fences_X12_isIn : GoodIn wsX12_fences wsX12_isIn := goodIn_r _ [5, 6, 11, 12, 13, 14, 15, 16, 17, 18, 19, 20, 21, 22, 23, 24, 25, 26, 27, 28, 29, 30, 31, 32, 33, 34, 35, 36, 37, 38, 39, 40, 41, 42, 43, 44, 45, 46, 47, 48, 49, 50, 51, 52, 53, 54, 55, 56, 57, 58, 59, 60, 61] (by decide +kernel) (by decide +kernel)
set_option maxRecDepth 20000 in
theorem gX12_fences_X12_isIn : GoodIn wsX12_fences (wsV RX12 130 RX12 yX12_isIn wsX12_isIn) := goodIn_app (goodIn_of _ (by decide +kernel)) ggX12_fences_X12_isIn
set_option maxRecDepth 20000 in
theorem ggX12_fences_X12_lays : GoodIn wsX12_fences wsX12_lays := goodIn_r _ [10, 6, 11, 12, 13, 14, 15, 16, 17, 18, 19, 20, 21, 22, 23, 24, 25, 26, 27, 28, 29, 30, 31, 32, 33, 34, 35, 36, 37, 38, 39, 40, 41, 42, 43, 44, 45, 46, 47, 48, 49, 50, 51, 52, 53, 54, 55, 56, 57, 58, 59, 60, 61] (by decide +kernel) (by decide +kernel)
set_option maxRecDepth 20000 in
theorem gX12_fences_X12_lays : GoodIn wsX12_fences (wsV RX12 134 RX12 yX12_lays wsX12_lays) := goodIn_app (goodIn_of _ (by decide +kernel)) ggX12_fences_X12_lays
theorem dX12_fences_0 : decode cX12_fences 0 = .ok (.aload_n 0, 1) := by decide +kernel
theorem dX12_fences_1 : decode cX12_fences 1 = .ok (.iload_n 1, 1) := by decide +kernel
theorem dX12_fences_2 : decode cX12_fences 2 = .ok (.iload_n 2, 1) := by decide +kernel
theorem dX12_fences_3 : decode cX12_fences 3 = .ok (.invokevirtual 130, 3) := by decide +kernel
theorem dX12_fences_6 : decode cX12_fences 6 = .ok (.ifCond .eq 11, 3) := by decide +kernel
theorem dX12_fences_9 : decode cX12_fences 9 = .ok (.aload_n 0, 1) := by decide +kernel
theorem dX12_fences_10 : decode cX12_fences 10 = .ok (.iload_n 1, 1) := by decide +kernel
theorem dX12_fences_11 : decode cX12_fences 11 = .ok (.iconst 2, 1) := by decide +kernel
theorem dX12_fences_12 : decode cX12_fences 12 = .ok (.iconst (-1), 1) := by decide +kernel
theorem dX12_fences_13 : decode cX12_fences 13 = .ok (.iconst (-1), 1) := by decide +kernel
theorem dX12_fences_14 : decode cX12_fences 14 = .ok (.invokevirtual 134, 3) := by decide +kernel
theorem dX12_fences_17 : decode cX12_fences 17 = .ok (.return_, 1) := by decide +kernel
set_option maxRecDepth 20000 in
theorem ggX12_counts_X12_lays : GoodIn wsX12_counts wsX12_lays := goodIn_r _ [5, 6, 15, 16, 17, 18, 19, 20, 21, 22, 23, 24, 25, 26, 27, 28, 29, 30, 31, 32, 33, 34, 35, 36, 37, 38, 39, 40, 41, 42, 43, 44, 45, 46, 47, 48, 49, 50, 51, 52, 53, 54, 55, 56, 57, 58, 59, 60, 61, 62, 63, 64, 65] (by decide +kernel) (by decide +kernel)
set_option maxRecDepth 20000 in
theorem gX12_counts_X12_lays : GoodIn wsX12_counts (wsV RX12 134 RX12 yX12_lays wsX12_lays) := goodIn_app (goodIn_of _ (by decide +kernel)) ggX12_counts_X12_lays
set_option maxRecDepth 20000 in
theorem ggX12_counts_X12_flushes : GoodIn wsX12_counts wsX12_flushes := goodIn_r _ [10, 11, 12, 13, 4, 14, 6, 1, 2, 3, 5, 15, 16, 17, 18, 19, 20, 21, 22, 23, 24, 25, 26, 27, 28, 29, 30, 31, 32, 33, 34, 35, 36, 37, 38, 39, 40, 41, 42, 43, 44, 45, 46, 47, 48, 49, 50, 51, 52, 53, 54, 55, 56, 57, 58, 59, 60, 61, 62, 63, 64, 65] (by decide +kernel) (by decide +kernel)
set_option maxRecDepth 20000 in
theorem gX12_counts_X12_flushes : GoodIn wsX12_counts (wsV RX12 138 RX12 yX12_flushes wsX12_flushes) := goodIn_app (goodIn_of _ (by decide +kernel)) ggX12_counts_X12_flushes
theorem dX12_counts_0 : decode cX12_counts 0 = .ok (.aload_n 0, 1) := by decide +kernel
theorem dX12_counts_1 : decode cX12_counts 1 = .ok (.iload_n 1, 1) := by decide +kernel
theorem dX12_counts_2 : decode cX12_counts 2 = .ok (.iconst 0, 1) := by decide +kernel
theorem dX12_counts_3 : decode cX12_counts 3 = .ok (.iconst 0, 1) := by decide +kernel
theorem dX12_counts_4 : decode cX12_counts 4 = .ok (.iload_n 2, 1) := by decide +kernel
theorem dX12_counts_5 : decode cX12_counts 5 = .ok (.invokevirtual 134, 3) := by decide +kernel
theorem dX12_counts_8 : decode cX12_counts 8 = .ok (.aload_n 0, 1) := by decide +kernel
theorem dX12_counts_9 : decode cX12_counts 9 = .ok (.iload_n 1, 1) := by decide +kernel
theorem dX12_counts_10 : decode cX12_counts 10 = .ok (.bipush 32, 2) := by decide +kernel
theorem dX12_counts_12 : decode cX12_counts 12 = .ok (.iconst 0, 1) := by decide +kernel
theorem dX12_counts_13 : decode cX12_counts 13 = .ok (.invokevirtual 138, 3) := by decide +kernel
theorem dX12_counts_16 : decode cX12_counts 16 = .ok (.return_, 1) := by decide +kernel
set_option maxRecDepth 20000 in
theorem ggX12_laysEnd_X12_flushes : GoodIn wsX12_laysEnd wsX12_flushes := goodIn_r _ [7, 8, 9, 10, 6, 11, 12, 13, 14, 15, 16, 25, 26, 27, 28, 29, 30, 31, 32, 33, 34, 35, 36, 37, 38, 39, 40, 41, 42, 43, 44, 45, 46, 47, 48, 49, 50, 51, 52, 53, 54, 55, 56, 57, 58, 59, 60, 61, 62, 63, 64, 65, 66, 67, 68, 69, 70, 71, 72, 73, 74, 75] (by decide +kernel) (by decide +kernel)
set_option maxRecDepth 20000 in
theorem gX12_laysEnd_X12_flushes : GoodIn wsX12_laysEnd (wsV RX12 138 RX12 yX12_flushes wsX12_flushes) := goodIn_app (goodIn_of _ (by decide +kernel)) ggX12_laysEnd_X12_flushes
set_option maxRecDepth 20000 in
theorem ggX12_laysEnd_X12_fences : GoodIn wsX12_laysEnd wsX12_fences := goodIn_r _ [20, 8, 9, 10, 6, 11, 12, 13, 14, 15, 16, 25, 26, 27, 28, 29, 30, 31, 32, 33, 34, 35, 36, 37, 38, 39, 40, 41, 42, 43, 44, 45, 46, 47, 48, 49, 50, 51, 52, 53, 54, 55, 56, 57, 58, 59, 60, 61, 62, 63, 64, 65, 66, 67, 68, 69, 70, 71, 72, 73, 74, 75] (by decide +kernel) (by decide +kernel)
set_option maxRecDepth 20000 in
theorem gX12_laysEnd_X12_fences : GoodIn wsX12_laysEnd (wsV RX12 141 RX12 yX12_fences wsX12_fences) := goodIn_app (goodIn_of _ (by decide +kernel)) ggX12_laysEnd_X12_fences
set_option maxRecDepth 20000 in
theorem ggX12_laysEnd_X12_counts : GoodIn wsX12_laysEnd wsX12_counts := goodIn_r _ [24, 13, 14, 15, 6, 16, 12, 3, 4, 5, 7, 8, 9, 10, 11, 25, 26, 27, 28, 29, 30, 31, 32, 33, 34, 35, 36, 37, 38, 39, 40, 41, 42, 43, 44, 45, 46, 47, 48, 49, 50, 51, 52, 53, 54, 55, 56, 57, 58, 59, 60, 61, 62, 63, 64, 65, 66, 67, 68, 69, 70, 71, 72, 73, 74, 75] (by decide +kernel) (by decide +kernel)
set_option maxRecDepth 20000 in
theorem gX12_laysEnd_X12_counts : GoodIn wsX12_laysEnd (wsV RX12 144 RX12 yX12_counts wsX12_counts) := goodIn_app (goodIn_of _ (by decide +kernel)) ggX12_laysEnd_X12_counts
theorem dX12_laysEnd_0 : decode cX12_laysEnd 0 = .ok (.iconst 0, 1) := by decide +kernel
theorem dX12_laysEnd_1 : decode cX12_laysEnd 1 = .ok (.istore_n 2, 1) := by decide +kernel
theorem dX12_laysEnd_2 : decode cX12_laysEnd 2 = .ok (.iload_n 2, 1) := by decide +kernel
theorem dX12_laysEnd_3 : decode cX12_laysEnd 3 = .ok (.aload_n 0, 1) := by decide +kernel
theorem dX12_laysEnd_4 : decode cX12_laysEnd 4 = .ok (.getfield 73, 3) := by decide +kernel
theorem dX12_laysEnd_7 : decode cX12_laysEnd 7 = .ok (.if_icmp .ge 75, 3) := by decide +kernel
theorem dX12_laysEnd_10 : decode cX12_laysEnd 10 = .ok (.iconst 1, 1) := by decide +kernel
theorem dX12_laysEnd_11 : decode cX12_laysEnd 11 = .ok (.istore_n 3, 1) := by decide +kernel
theorem dX12_laysEnd_12 : decode cX12_laysEnd 12 = .ok (.iconst 0, 1) := by decide +kernel
theorem dX12_laysEnd_13 : decode cX12_laysEnd 13 = .ok (.istore 4, 2) := by decide +kernel
theorem dX12_laysEnd_15 : decode cX12_laysEnd 15 = .ok (.iload 4, 2) := by decide +kernel
theorem dX12_laysEnd_17 : decode cX12_laysEnd 17 = .ok (.iload_n 2, 1) := by decide +kernel
theorem dX12_laysEnd_18 : decode cX12_laysEnd 18 = .ok (.if_icmp .ge 39, 3) := by decide +kernel
theorem dX12_laysEnd_21 : decode cX12_laysEnd 21 = .ok (.iload_n 3, 1) := by decide +kernel
theorem dX12_laysEnd_22 : decode cX12_laysEnd 22 = .ok (.ifCond .eq 27, 3) := by decide +kernel
theorem dX12_laysEnd_25 : decode cX12_laysEnd 25 = .ok (.aload_n 0, 1) := by decide +kernel
theorem dX12_laysEnd_26 : decode cX12_laysEnd 26 = .ok (.getfield 33, 3) := by decide +kernel
theorem dX12_laysEnd_29 : decode cX12_laysEnd 29 = .ok (.iload 4, 2) := by decide +kernel
theorem dX12_laysEnd_31 : decode cX12_laysEnd 31 = .ok (.iaload, 1) := by decide +kernel
theorem dX12_laysEnd_32 : decode cX12_laysEnd 32 = .ok (.iconst 4, 1) := by decide +kernel
theorem dX12_laysEnd_33 : decode cX12_laysEnd 33 = .ok (.idiv, 1) := by decide +kernel
theorem dX12_laysEnd_34 : decode cX12_laysEnd 34 = .ok (.aload_n 0, 1) := by decide +kernel
theorem dX12_laysEnd_35 : decode cX12_laysEnd 35 = .ok (.getfield 33, 3) := by decide +kernel
theorem dX12_laysEnd_38 : decode cX12_laysEnd 38 = .ok (.iload_n 2, 1) := by decide +kernel
theorem dX12_laysEnd_39 : decode cX12_laysEnd 39 = .ok (.iaload, 1) := by decide +kernel
theorem dX12_laysEnd_40 : decode cX12_laysEnd 40 = .ok (.iconst 4, 1) := by decide +kernel
theorem dX12_laysEnd_41 : decode cX12_laysEnd 41 = .ok (.idiv, 1) := by decide +kernel
theorem dX12_laysEnd_42 : decode cX12_laysEnd 42 = .ok (.if_icmp .eq 7, 3) := by decide +kernel
theorem dX12_laysEnd_45 : decode cX12_laysEnd 45 = .ok (.iconst 1, 1) := by decide +kernel
theorem dX12_laysEnd_46 : decode cX12_laysEnd 46 = .ok (.goto 4, 3) := by decide +kernel
theorem dX12_laysEnd_49 : decode cX12_laysEnd 49 = .ok (.iconst 0, 1) := by decide +kernel
theorem dX12_laysEnd_50 : decode cX12_laysEnd 50 = .ok (.istore_n 3, 1) := by decide +kernel
theorem dX12_laysEnd_51 : decode cX12_laysEnd 51 = .ok (.iinc 4 1, 3) := by decide +kernel
theorem dX12_laysEnd_54 : decode cX12_laysEnd 54 = .ok (.goto (-39), 3) := by decide +kernel
theorem dX12_laysEnd_57 : decode cX12_laysEnd 57 = .ok (.iload_n 3, 1) := by decide +kernel
theorem dX12_laysEnd_58 : decode cX12_laysEnd 58 = .ok (.ifCond .eq 18, 3) := by decide +kernel
theorem dX12_laysEnd_61 : decode cX12_laysEnd 61 = .ok (.aload_n 0, 1) := by decide +kernel
theorem dX12_laysEnd_62 : decode cX12_laysEnd 62 = .ok (.iload_n 1, 1) := by decide +kernel
theorem dX12_laysEnd_63 : decode cX12_laysEnd 63 = .ok (.bipush 64, 2) := by decide +kernel
theorem dX12_laysEnd_65 : decode cX12_laysEnd 65 = .ok (.aload_n 0, 1) := by decide +kernel
theorem dX12_laysEnd_66 : decode cX12_laysEnd 66 = .ok (.getfield 33, 3) := by decide +kernel
theorem dX12_laysEnd_69 : decode cX12_laysEnd 69 = .ok (.iload_n 2, 1) := by decide +kernel
theorem dX12_laysEnd_70 : decode cX12_laysEnd 70 = .ok (.iaload, 1) := by decide +kernel
theorem dX12_laysEnd_71 : decode cX12_laysEnd 71 = .ok (.iconst 4, 1) := by decide +kernel
theorem dX12_laysEnd_72 : decode cX12_laysEnd 72 = .ok (.idiv, 1) := by decide +kernel
theorem dX12_laysEnd_73 : decode cX12_laysEnd 73 = .ok (.invokevirtual 138, 3) := by decide +kernel
theorem dX12_laysEnd_76 : decode cX12_laysEnd 76 = .ok (.iinc 2 1, 3) := by decide +kernel
theorem dX12_laysEnd_79 : decode cX12_laysEnd 79 = .ok (.goto (-77), 3) := by decide +kernel
theorem dX12_laysEnd_82 : decode cX12_laysEnd 82 = .ok (.aload_n 0, 1) := by decide +kernel
theorem dX12_laysEnd_83 : decode cX12_laysEnd 83 = .ok (.iload_n 1, 1) := by decide +kernel
theorem dX12_laysEnd_84 : decode cX12_laysEnd 84 = .ok (.iconst 4, 1) := by decide +kernel
theorem dX12_laysEnd_85 : decode cX12_laysEnd 85 = .ok (.invokevirtual 141, 3) := by decide +kernel
theorem dX12_laysEnd_88 : decode cX12_laysEnd 88 = .ok (.aload_n 0, 1) := by decide +kernel
theorem dX12_laysEnd_89 : decode cX12_laysEnd 89 = .ok (.iload_n 1, 1) := by decide +kernel
theorem dX12_laysEnd_90 : decode cX12_laysEnd 90 = .ok (.iconst 0, 1) := by decide +kernel
theorem dX12_laysEnd_91 : decode cX12_laysEnd 91 = .ok (.invokevirtual 144, 3) := by decide +kernel
theorem dX12_laysEnd_94 : decode cX12_laysEnd 94 = .ok (.aload_n 0, 1) := by decide +kernel
theorem dX12_laysEnd_95 : decode cX12_laysEnd 95 = .ok (.iload_n 1, 1) := by decide +kernel
theorem dX12_laysEnd_96 : decode cX12_laysEnd 96 = .ok (.bipush 8, 2) := by decide +kernel
theorem dX12_laysEnd_98 : decode cX12_laysEnd 98 = .ok (.invokevirtual 141, 3) := by decide +kernel
theorem dX12_laysEnd_101 : decode cX12_laysEnd 101 = .ok (.return_, 1) := by decide +kernel
set_option maxRecDepth 20000 in
theorem ggX12_laysMicros_X12_laysWords : GoodIn wsX12_laysMicros wsX12_laysWords := goodIn_r _ [11, 6, 12, 13, 14, 10, 15, 1, 40, 41, 42, 43, 44, 45, 46, 47, 48, 49, 50, 51, 52, 53, 54, 55, 56, 57, 58, 59, 60, 61, 62, 63, 64, 65, 66, 67, 68, 69, 70, 71, 72, 73, 74, 75, 76, 77, 78, 79, 80, 81, 82, 83, 84, 85, 86, 87, 88, 89, 90] (by decide +kernel) (by decide +kernel)
set_option maxRecDepth 20000 in
theorem gX12_laysMicros_X12_laysWords : GoodIn wsX12_laysMicros (wsV RX12 122 RX12 yX12_laysWords wsX12_laysWords) := goodIn_app (goodIn_of _ (by decide +kernel)) ggX12_laysMicros_X12_laysWords
set_option maxRecDepth 20000 in
theorem ggX12_laysMicros_X12_lays : GoodIn wsX12_laysMicros wsX12_lays := goodIn_r _ [19, 1, 40, 41, 42, 43, 44, 45, 46, 47, 48, 49, 50, 51, 52, 53, 54, 55, 56, 57, 58, 59, 60, 61, 62, 63, 64, 65, 66, 67, 68, 69, 70, 71, 72, 73, 74, 75, 76, 77, 78, 79, 80, 81, 82, 83, 84, 85, 86, 87, 88, 89, 90] (by decide +kernel) (by decide +kernel)
set_option maxRecDepth 20000 in
theorem gX12_laysMicros_X12_lays : GoodIn wsX12_laysMicros (wsV RX12 134 RX12 yX12_lays wsX12_lays) := goodIn_app (goodIn_of _ (by decide +kernel)) ggX12_laysMicros_X12_lays
set_option maxRecDepth 20000 in
theorem ggX12_laysMicros_X12_flushes : GoodIn wsX12_laysMicros wsX12_flushes := goodIn_r _ [23, 24, 25, 26, 10, 27, 1, 16, 17, 18, 19, 40, 41, 42, 43, 44, 45, 46, 47, 48, 49, 50, 51, 52, 53, 54, 55, 56, 57, 58, 59, 60, 61, 62, 63, 64, 65, 66, 67, 68, 69, 70, 71, 72, 73, 74, 75, 76, 77, 78, 79, 80, 81, 82, 83, 84, 85, 86, 87, 88, 89, 90] (by decide +kernel) (by decide +kernel)
set_option maxRecDepth 20000 in
theorem gX12_laysMicros_X12_flushes : GoodIn wsX12_laysMicros (wsV RX12 138 RX12 yX12_flushes wsX12_flushes) := goodIn_app (goodIn_of _ (by decide +kernel)) ggX12_laysMicros_X12_flushes
set_option maxRecDepth 20000 in
theorem ggX12_laysMicros_X12_fences : GoodIn wsX12_laysMicros wsX12_fences := goodIn_r _ [31, 24, 25, 26, 10, 27, 1, 16, 17, 18, 19, 40, 41, 42, 43, 44, 45, 46, 47, 48, 49, 50, 51, 52, 53, 54, 55, 56, 57, 58, 59, 60, 61, 62, 63, 64, 65, 66, 67, 68, 69, 70, 71, 72, 73, 74, 75, 76, 77, 78, 79, 80, 81, 82, 83, 84, 85, 86, 87, 88, 89, 90] (by decide +kernel) (by decide +kernel)
set_option maxRecDepth 20000 in
theorem gX12_laysMicros_X12_fences : GoodIn wsX12_laysMicros (wsV RX12 141 RX12 yX12_fences wsX12_fences) := goodIn_app (goodIn_of _ (by decide +kernel)) ggX12_laysMicros_X12_fences
set_option maxRecDepth 20000 in
theorem ggX12_laysMicros_X12_counts : GoodIn wsX12_laysMicros wsX12_counts := goodIn_r _ [35, 16, 17, 18, 10, 19, 1, 20, 21, 22, 23, 24, 25, 26, 27, 40, 41, 42, 43, 44, 45, 46, 47, 48, 49, 50, 51, 52, 53, 54, 55, 56, 57, 58, 59, 60, 61, 62, 63, 64, 65, 66, 67, 68, 69, 70, 71, 72, 73, 74, 75, 76, 77, 78, 79, 80, 81, 82, 83, 84, 85, 86, 87, 88, 89, 90] (by decide +kernel) (by decide +kernel)
set_option maxRecDepth 20000 in
theorem gX12_laysMicros_X12_counts : GoodIn wsX12_laysMicros (wsV RX12 144 RX12 yX12_counts wsX12_counts) := goodIn_app (goodIn_of _ (by decide +kernel)) ggX12_laysMicros_X12_counts
set_option maxRecDepth 20000 in
theorem ggX12_laysMicros_X12_laysEnd : GoodIn wsX12_laysMicros wsX12_laysEnd := goodIn_r _ [39, 2, 3, 20, 21, 22, 10, 23, 24, 25, 26, 27, 1, 16, 17, 18, 19, 28, 29, 30, 31, 32, 33, 34, 35, 40, 41, 42, 43, 44, 45, 46, 47, 48, 49, 50, 51, 52, 53, 54, 55, 56, 57, 58, 59, 60, 61, 62, 63, 64, 65, 66, 67, 68, 69, 70, 71, 72, 73, 74, 75, 76, 77, 78, 79, 80, 81, 82, 83, 84, 85, 86, 87, 88, 89, 90] (by decide +kernel) (by decide +kernel)
set_option maxRecDepth 20000 in
theorem gX12_laysMicros_X12_laysEnd : GoodIn wsX12_laysMicros (wsV RX12 150 RX12 yX12_laysEnd wsX12_laysEnd) := goodIn_app (goodIn_of _ (by decide +kernel)) ggX12_laysMicros_X12_laysEnd
theorem dX12_laysMicros_0 : decode cX12_laysMicros 0 = .ok (.aload_n 0, 1) := by decide +kernel
theorem dX12_laysMicros_1 : decode cX12_laysMicros 1 = .ok (.getfield 10, 3) := by decide +kernel
theorem dX12_laysMicros_4 : decode cX12_laysMicros 4 = .ok (.iload_n 1, 1) := by decide +kernel
theorem dX12_laysMicros_5 : decode cX12_laysMicros 5 = .ok (.sipush 774, 3) := by decide +kernel
theorem dX12_laysMicros_8 : decode cX12_laysMicros 8 = .ok (.iadd, 1) := by decide +kernel
theorem dX12_laysMicros_9 : decode cX12_laysMicros 9 = .ok (.iconst 0, 1) := by decide +kernel
theorem dX12_laysMicros_10 : decode cX12_laysMicros 10 = .ok (.iastore, 1) := by decide +kernel
theorem dX12_laysMicros_11 : decode cX12_laysMicros 11 = .ok (.aload_n 0, 1) := by decide +kernel
theorem dX12_laysMicros_12 : decode cX12_laysMicros 12 = .ok (.getfield 10, 3) := by decide +kernel
theorem dX12_laysMicros_15 : decode cX12_laysMicros 15 = .ok (.iload_n 1, 1) := by decide +kernel
theorem dX12_laysMicros_16 : decode cX12_laysMicros 16 = .ok (.sipush 775, 3) := by decide +kernel
theorem dX12_laysMicros_19 : decode cX12_laysMicros 19 = .ok (.iadd, 1) := by decide +kernel
theorem dX12_laysMicros_20 : decode cX12_laysMicros 20 = .ok (.iconst 0, 1) := by decide +kernel
theorem dX12_laysMicros_21 : decode cX12_laysMicros 21 = .ok (.iastore, 1) := by decide +kernel
theorem dX12_laysMicros_22 : decode cX12_laysMicros 22 = .ok (.aload_n 0, 1) := by decide +kernel
theorem dX12_laysMicros_23 : decode cX12_laysMicros 23 = .ok (.iload_n 1, 1) := by decide +kernel
theorem dX12_laysMicros_24 : decode cX12_laysMicros 24 = .ok (.invokevirtual 122, 3) := by decide +kernel
theorem dX12_laysMicros_27 : decode cX12_laysMicros 27 = .ok (.iconst 0, 1) := by decide +kernel
theorem dX12_laysMicros_28 : decode cX12_laysMicros 28 = .ok (.istore_n 2, 1) := by decide +kernel
theorem dX12_laysMicros_29 : decode cX12_laysMicros 29 = .ok (.iload_n 2, 1) := by decide +kernel
theorem dX12_laysMicros_30 : decode cX12_laysMicros 30 = .ok (.aload_n 0, 1) := by decide +kernel
theorem dX12_laysMicros_31 : decode cX12_laysMicros 31 = .ok (.getfield 73, 3) := by decide +kernel
theorem dX12_laysMicros_34 : decode cX12_laysMicros 34 = .ok (.if_icmp .ge 141, 3) := by decide +kernel
theorem dX12_laysMicros_37 : decode cX12_laysMicros 37 = .ok (.iconst 4, 1) := by decide +kernel
theorem dX12_laysMicros_38 : decode cX12_laysMicros 38 = .ok (.iconst 2, 1) := by decide +kernel
theorem dX12_laysMicros_39 : decode cX12_laysMicros 39 = .ok (.iload_n 2, 1) := by decide +kernel
theorem dX12_laysMicros_40 : decode cX12_laysMicros 40 = .ok (.imul, 1) := by decide +kernel
theorem dX12_laysMicros_41 : decode cX12_laysMicros 41 = .ok (.iadd, 1) := by decide +kernel
theorem dX12_laysMicros_42 : decode cX12_laysMicros 42 = .ok (.istore_n 3, 1) := by decide +kernel
theorem dX12_laysMicros_43 : decode cX12_laysMicros 43 = .ok (.aload_n 0, 1) := by decide +kernel
theorem dX12_laysMicros_44 : decode cX12_laysMicros 44 = .ok (.iload_n 1, 1) := by decide +kernel
theorem dX12_laysMicros_45 : decode cX12_laysMicros 45 = .ok (.iconst 0, 1) := by decide +kernel
theorem dX12_laysMicros_46 : decode cX12_laysMicros 46 = .ok (.iload_n 3, 1) := by decide +kernel
theorem dX12_laysMicros_47 : decode cX12_laysMicros 47 = .ok (.aload_n 0, 1) := by decide +kernel
theorem dX12_laysMicros_48 : decode cX12_laysMicros 48 = .ok (.getfield 33, 3) := by decide +kernel
theorem dX12_laysMicros_51 : decode cX12_laysMicros 51 = .ok (.iload_n 2, 1) := by decide +kernel
theorem dX12_laysMicros_52 : decode cX12_laysMicros 52 = .ok (.iaload, 1) := by decide +kernel
theorem dX12_laysMicros_53 : decode cX12_laysMicros 53 = .ok (.invokevirtual 134, 3) := by decide +kernel
theorem dX12_laysMicros_56 : decode cX12_laysMicros 56 = .ok (.aload_n 0, 1) := by decide +kernel
theorem dX12_laysMicros_57 : decode cX12_laysMicros 57 = .ok (.iload_n 1, 1) := by decide +kernel
theorem dX12_laysMicros_58 : decode cX12_laysMicros 58 = .ok (.iconst 0, 1) := by decide +kernel
theorem dX12_laysMicros_59 : decode cX12_laysMicros 59 = .ok (.iload_n 3, 1) := by decide +kernel
theorem dX12_laysMicros_60 : decode cX12_laysMicros 60 = .ok (.iconst 1, 1) := by decide +kernel
theorem dX12_laysMicros_61 : decode cX12_laysMicros 61 = .ok (.iadd, 1) := by decide +kernel
theorem dX12_laysMicros_62 : decode cX12_laysMicros 62 = .ok (.aload_n 0, 1) := by decide +kernel
theorem dX12_laysMicros_63 : decode cX12_laysMicros 63 = .ok (.getfield 147, 3) := by decide +kernel
theorem dX12_laysMicros_66 : decode cX12_laysMicros 66 = .ok (.iconst 1, 1) := by decide +kernel
theorem dX12_laysMicros_67 : decode cX12_laysMicros 67 = .ok (.if_icmp .ne 12, 3) := by decide +kernel
theorem dX12_laysMicros_70 : decode cX12_laysMicros 70 = .ok (.aload_n 0, 1) := by decide +kernel
theorem dX12_laysMicros_71 : decode cX12_laysMicros 71 = .ok (.getfield 36, 3) := by decide +kernel
theorem dX12_laysMicros_74 : decode cX12_laysMicros 74 = .ok (.iload_n 2, 1) := by decide +kernel
theorem dX12_laysMicros_75 : decode cX12_laysMicros 75 = .ok (.iaload, 1) := by decide +kernel
theorem dX12_laysMicros_76 : decode cX12_laysMicros 76 = .ok (.goto 14, 3) := by decide +kernel
theorem dX12_laysMicros_79 : decode cX12_laysMicros 79 = .ok (.aload_n 0, 1) := by decide +kernel
theorem dX12_laysMicros_80 : decode cX12_laysMicros 80 = .ok (.getfield 30, 3) := by decide +kernel
theorem dX12_laysMicros_83 : decode cX12_laysMicros 83 = .ok (.aload_n 0, 1) := by decide +kernel
theorem dX12_laysMicros_84 : decode cX12_laysMicros 84 = .ok (.getfield 33, 3) := by decide +kernel
theorem dX12_laysMicros_87 : decode cX12_laysMicros 87 = .ok (.iload_n 2, 1) := by decide +kernel
theorem dX12_laysMicros_88 : decode cX12_laysMicros 88 = .ok (.iaload, 1) := by decide +kernel
theorem dX12_laysMicros_89 : decode cX12_laysMicros 89 = .ok (.iaload, 1) := by decide +kernel
theorem dX12_laysMicros_90 : decode cX12_laysMicros 90 = .ok (.invokevirtual 134, 3) := by decide +kernel
theorem dX12_laysMicros_93 : decode cX12_laysMicros 93 = .ok (.aload_n 0, 1) := by decide +kernel
theorem dX12_laysMicros_94 : decode cX12_laysMicros 94 = .ok (.iload_n 1, 1) := by decide +kernel
theorem dX12_laysMicros_95 : decode cX12_laysMicros 95 = .ok (.bipush 16, 2) := by decide +kernel
theorem dX12_laysMicros_97 : decode cX12_laysMicros 97 = .ok (.iload_n 3, 1) := by decide +kernel
theorem dX12_laysMicros_98 : decode cX12_laysMicros 98 = .ok (.iconst 4, 1) := by decide +kernel
theorem dX12_laysMicros_99 : decode cX12_laysMicros 99 = .ok (.idiv, 1) := by decide +kernel
theorem dX12_laysMicros_100 : decode cX12_laysMicros 100 = .ok (.invokevirtual 138, 3) := by decide +kernel
theorem dX12_laysMicros_103 : decode cX12_laysMicros 103 = .ok (.aload_n 0, 1) := by decide +kernel
theorem dX12_laysMicros_104 : decode cX12_laysMicros 104 = .ok (.getfield 147, 3) := by decide +kernel
theorem dX12_laysMicros_107 : decode cX12_laysMicros 107 = .ok (.iconst 1, 1) := by decide +kernel
theorem dX12_laysMicros_108 : decode cX12_laysMicros 108 = .ok (.if_icmp .ne 6, 3) := by decide +kernel
theorem dX12_laysMicros_111 : decode cX12_laysMicros 111 = .ok (.goto 58, 3) := by decide +kernel
theorem dX12_laysMicros_114 : decode cX12_laysMicros 114 = .ok (.aload_n 0, 1) := by decide +kernel
theorem dX12_laysMicros_115 : decode cX12_laysMicros 115 = .ok (.iload_n 1, 1) := by decide +kernel
theorem dX12_laysMicros_116 : decode cX12_laysMicros 116 = .ok (.iconst 1, 1) := by decide +kernel
theorem dX12_laysMicros_117 : decode cX12_laysMicros 117 = .ok (.invokevirtual 141, 3) := by decide +kernel
theorem dX12_laysMicros_120 : decode cX12_laysMicros 120 = .ok (.aload_n 0, 1) := by decide +kernel
theorem dX12_laysMicros_121 : decode cX12_laysMicros 121 = .ok (.iload_n 1, 1) := by decide +kernel
theorem dX12_laysMicros_122 : decode cX12_laysMicros 122 = .ok (.iload_n 2, 1) := by decide +kernel
theorem dX12_laysMicros_123 : decode cX12_laysMicros 123 = .ok (.iconst 1, 1) := by decide +kernel
theorem dX12_laysMicros_124 : decode cX12_laysMicros 124 = .ok (.iadd, 1) := by decide +kernel
theorem dX12_laysMicros_125 : decode cX12_laysMicros 125 = .ok (.invokevirtual 144, 3) := by decide +kernel
theorem dX12_laysMicros_128 : decode cX12_laysMicros 128 = .ok (.aload_n 0, 1) := by decide +kernel
theorem dX12_laysMicros_129 : decode cX12_laysMicros 129 = .ok (.iload_n 1, 1) := by decide +kernel
theorem dX12_laysMicros_130 : decode cX12_laysMicros 130 = .ok (.iconst 2, 1) := by decide +kernel
theorem dX12_laysMicros_131 : decode cX12_laysMicros 131 = .ok (.invokevirtual 141, 3) := by decide +kernel
theorem dX12_laysMicros_134 : decode cX12_laysMicros 134 = .ok (.aload_n 0, 1) := by decide +kernel
theorem dX12_laysMicros_135 : decode cX12_laysMicros 135 = .ok (.iload_n 1, 1) := by decide +kernel
theorem dX12_laysMicros_136 : decode cX12_laysMicros 136 = .ok (.iconst 0, 1) := by decide +kernel
theorem dX12_laysMicros_137 : decode cX12_laysMicros 137 = .ok (.aload_n 0, 1) := by decide +kernel
theorem dX12_laysMicros_138 : decode cX12_laysMicros 138 = .ok (.getfield 33, 3) := by decide +kernel
theorem dX12_laysMicros_141 : decode cX12_laysMicros 141 = .ok (.iload_n 2, 1) := by decide +kernel
theorem dX12_laysMicros_142 : decode cX12_laysMicros 142 = .ok (.iaload, 1) := by decide +kernel
theorem dX12_laysMicros_143 : decode cX12_laysMicros 143 = .ok (.aload_n 0, 1) := by decide +kernel
theorem dX12_laysMicros_144 : decode cX12_laysMicros 144 = .ok (.getfield 36, 3) := by decide +kernel
theorem dX12_laysMicros_147 : decode cX12_laysMicros 147 = .ok (.iload_n 2, 1) := by decide +kernel
theorem dX12_laysMicros_148 : decode cX12_laysMicros 148 = .ok (.iaload, 1) := by decide +kernel
theorem dX12_laysMicros_149 : decode cX12_laysMicros 149 = .ok (.invokevirtual 134, 3) := by decide +kernel
theorem dX12_laysMicros_152 : decode cX12_laysMicros 152 = .ok (.aload_n 0, 1) := by decide +kernel
theorem dX12_laysMicros_153 : decode cX12_laysMicros 153 = .ok (.getfield 30, 3) := by decide +kernel
theorem dX12_laysMicros_156 : decode cX12_laysMicros 156 = .ok (.aload_n 0, 1) := by decide +kernel
theorem dX12_laysMicros_157 : decode cX12_laysMicros 157 = .ok (.getfield 33, 3) := by decide +kernel
theorem dX12_laysMicros_160 : decode cX12_laysMicros 160 = .ok (.iload_n 2, 1) := by decide +kernel
theorem dX12_laysMicros_161 : decode cX12_laysMicros 161 = .ok (.iaload, 1) := by decide +kernel
theorem dX12_laysMicros_162 : decode cX12_laysMicros 162 = .ok (.aload_n 0, 1) := by decide +kernel
theorem dX12_laysMicros_163 : decode cX12_laysMicros 163 = .ok (.getfield 36, 3) := by decide +kernel
theorem dX12_laysMicros_166 : decode cX12_laysMicros 166 = .ok (.iload_n 2, 1) := by decide +kernel
theorem dX12_laysMicros_167 : decode cX12_laysMicros 167 = .ok (.iaload, 1) := by decide +kernel
theorem dX12_laysMicros_168 : decode cX12_laysMicros 168 = .ok (.iastore, 1) := by decide +kernel
theorem dX12_laysMicros_169 : decode cX12_laysMicros 169 = .ok (.iinc 2 1, 3) := by decide +kernel
theorem dX12_laysMicros_172 : decode cX12_laysMicros 172 = .ok (.goto (-143), 3) := by decide +kernel
theorem dX12_laysMicros_175 : decode cX12_laysMicros 175 = .ok (.aload_n 0, 1) := by decide +kernel
theorem dX12_laysMicros_176 : decode cX12_laysMicros 176 = .ok (.getfield 147, 3) := by decide +kernel
theorem dX12_laysMicros_179 : decode cX12_laysMicros 179 = .ok (.iconst 1, 1) := by decide +kernel
theorem dX12_laysMicros_180 : decode cX12_laysMicros 180 = .ok (.if_icmp .ne 58, 3) := by decide +kernel
theorem dX12_laysMicros_183 : decode cX12_laysMicros 183 = .ok (.aload_n 0, 1) := by decide +kernel
theorem dX12_laysMicros_184 : decode cX12_laysMicros 184 = .ok (.iload_n 1, 1) := by decide +kernel
theorem dX12_laysMicros_185 : decode cX12_laysMicros 185 = .ok (.iconst 1, 1) := by decide +kernel
theorem dX12_laysMicros_186 : decode cX12_laysMicros 186 = .ok (.invokevirtual 141, 3) := by decide +kernel
theorem dX12_laysMicros_189 : decode cX12_laysMicros 189 = .ok (.aload_n 0, 1) := by decide +kernel
theorem dX12_laysMicros_190 : decode cX12_laysMicros 190 = .ok (.iload_n 1, 1) := by decide +kernel
theorem dX12_laysMicros_191 : decode cX12_laysMicros 191 = .ok (.aload_n 0, 1) := by decide +kernel
theorem dX12_laysMicros_192 : decode cX12_laysMicros 192 = .ok (.getfield 73, 3) := by decide +kernel
theorem dX12_laysMicros_195 : decode cX12_laysMicros 195 = .ok (.invokevirtual 144, 3) := by decide +kernel
theorem dX12_laysMicros_198 : decode cX12_laysMicros 198 = .ok (.aload_n 0, 1) := by decide +kernel
theorem dX12_laysMicros_199 : decode cX12_laysMicros 199 = .ok (.iload_n 1, 1) := by decide +kernel
theorem dX12_laysMicros_200 : decode cX12_laysMicros 200 = .ok (.iconst 2, 1) := by decide +kernel
theorem dX12_laysMicros_201 : decode cX12_laysMicros 201 = .ok (.invokevirtual 141, 3) := by decide +kernel
theorem dX12_laysMicros_204 : decode cX12_laysMicros 204 = .ok (.iconst 0, 1) := by decide +kernel
theorem dX12_laysMicros_205 : decode cX12_laysMicros 205 = .ok (.istore_n 2, 1) := by decide +kernel
theorem dX12_laysMicros_206 : decode cX12_laysMicros 206 = .ok (.iload_n 2, 1) := by decide +kernel
theorem dX12_laysMicros_207 : decode cX12_laysMicros 207 = .ok (.aload_n 0, 1) := by decide +kernel
theorem dX12_laysMicros_208 : decode cX12_laysMicros 208 = .ok (.getfield 73, 3) := by decide +kernel
theorem dX12_laysMicros_211 : decode cX12_laysMicros 211 = .ok (.if_icmp .ge 27, 3) := by decide +kernel
theorem dX12_laysMicros_214 : decode cX12_laysMicros 214 = .ok (.aload_n 0, 1) := by decide +kernel
theorem dX12_laysMicros_215 : decode cX12_laysMicros 215 = .ok (.iload_n 1, 1) := by decide +kernel
theorem dX12_laysMicros_216 : decode cX12_laysMicros 216 = .ok (.iconst 0, 1) := by decide +kernel
theorem dX12_laysMicros_217 : decode cX12_laysMicros 217 = .ok (.aload_n 0, 1) := by decide +kernel
theorem dX12_laysMicros_218 : decode cX12_laysMicros 218 = .ok (.getfield 33, 3) := by decide +kernel
theorem dX12_laysMicros_221 : decode cX12_laysMicros 221 = .ok (.iload_n 2, 1) := by decide +kernel
theorem dX12_laysMicros_222 : decode cX12_laysMicros 222 = .ok (.iaload, 1) := by decide +kernel
theorem dX12_laysMicros_223 : decode cX12_laysMicros 223 = .ok (.aload_n 0, 1) := by decide +kernel
theorem dX12_laysMicros_224 : decode cX12_laysMicros 224 = .ok (.getfield 36, 3) := by decide +kernel
theorem dX12_laysMicros_227 : decode cX12_laysMicros 227 = .ok (.iload_n 2, 1) := by decide +kernel
theorem dX12_laysMicros_228 : decode cX12_laysMicros 228 = .ok (.iaload, 1) := by decide +kernel
theorem dX12_laysMicros_229 : decode cX12_laysMicros 229 = .ok (.invokevirtual 134, 3) := by decide +kernel
theorem dX12_laysMicros_232 : decode cX12_laysMicros 232 = .ok (.iinc 2 1, 3) := by decide +kernel
theorem dX12_laysMicros_235 : decode cX12_laysMicros 235 = .ok (.goto (-29), 3) := by decide +kernel
theorem dX12_laysMicros_238 : decode cX12_laysMicros 238 = .ok (.aload_n 0, 1) := by decide +kernel
theorem dX12_laysMicros_239 : decode cX12_laysMicros 239 = .ok (.iload_n 1, 1) := by decide +kernel
theorem dX12_laysMicros_240 : decode cX12_laysMicros 240 = .ok (.invokevirtual 150, 3) := by decide +kernel
theorem dX12_laysMicros_243 : decode cX12_laysMicros 243 = .ok (.return_, 1) := by decide +kernel
set_option maxRecDepth 20000 in
theorem ggX12_isBegun_X12_isWritten : GoodIn wsX12_isBegun wsX12_isWritten := goodIn_r _ [7, 8, 1, 9, 10, 11, 6, 12, 2, 13, 14, 15, 16, 17, 18, 19, 20, 21, 22, 23, 24, 25, 26, 27, 28, 29, 30, 31, 32, 33, 34, 35, 36, 37, 38, 39, 40, 41, 42, 43, 44, 45, 46, 47, 48, 49, 50, 51, 52, 53, 54, 55, 56, 86, 87, 88, 89, 90, 91, 92, 93, 94, 95, 96, 97, 98, 99, 100, 101, 102, 103, 104, 105, 106, 107, 108, 109, 110, 111, 112, 113, 114, 115, 116, 117, 118, 119, 120, 121, 122, 123, 124, 125, 126, 127, 128, 129, 130, 131, 132, 133, 134, 135, 136] (by decide +kernel) (by decide +kernel)
set_option maxRecDepth 20000 in
theorem gX12_isBegun_X12_isWritten : GoodIn wsX12_isBegun (wsV RX12 153 RX12 yX12_isWritten wsX12_isWritten) := goodIn_app (goodIn_of _ (by decide +kernel)) ggX12_isBegun_X12_isWritten
set_option maxRecDepth 20000 in
theorem ggX12_isBegun_X12_wordOf : GoodIn wsX12_isBegun wsX12_wordOf := goodIn_r _ [16, 1, 86, 87, 88, 89, 90, 91, 92, 93, 94, 95, 96, 97, 98, 99, 100, 101, 102, 103, 104, 105, 106, 107, 108, 109, 110, 111, 112, 113, 114, 115, 116, 117, 118, 119, 120, 121, 122, 123, 124, 125, 126, 127, 128, 129, 130, 131, 132, 133, 134, 135, 136] (by decide +kernel) (by decide +kernel)
set_option maxRecDepth 20000 in
theorem gX12_isBegun_X12_wordOf : GoodIn wsX12_isBegun (wsV RX12 118 RX12 yX12_wordOf wsX12_wordOf) := goodIn_app (goodIn_of _ (by decide +kernel)) ggX12_isBegun_X12_wordOf
set_option maxRecDepth 20000 in
theorem ggX12_isBegun_X12_laysMicros : GoodIn wsX12_isBegun wsX12_laysMicros := goodIn_r _ [60, 1, 8, 25, 61, 26, 2, 9, 10, 11, 6, 12, 13, 14, 15, 16, 62, 63, 64, 65, 66, 67, 68, 69, 70, 71, 72, 73, 74, 75, 76, 77, 78, 79, 80, 81, 82, 83, 84, 85, 86, 87, 88, 89, 90, 91, 92, 93, 94, 95, 96, 97, 98, 99, 100, 101, 102, 103, 104, 105, 106, 107, 108, 109, 110, 111, 112, 113, 114, 115, 116, 117, 118, 119, 120, 121, 122, 123, 124, 125, 126, 127, 128, 129, 130, 131, 132, 133, 134, 135, 136] (by decide +kernel) (by decide +kernel)
set_option maxRecDepth 20000 in
theorem gX12_isBegun_X12_laysMicros : GoodIn wsX12_isBegun (wsV RX12 157 RX12 yX12_laysMicros wsX12_laysMicros) := goodIn_app (goodIn_of _ (by decide +kernel)) ggX12_isBegun_X12_laysMicros
theorem dX12_isBegun_0 : decode cX12_isBegun 0 = .ok (.aload_n 0, 1) := by decide +kernel
theorem dX12_isBegun_1 : decode cX12_isBegun 1 = .ok (.getfield 10, 3) := by decide +kernel
theorem dX12_isBegun_4 : decode cX12_isBegun 4 = .ok (.iload_n 1, 1) := by decide +kernel
theorem dX12_isBegun_5 : decode cX12_isBegun 5 = .ok (.sipush 777, 3) := by decide +kernel
theorem dX12_isBegun_8 : decode cX12_isBegun 8 = .ok (.iadd, 1) := by decide +kernel
theorem dX12_isBegun_9 : decode cX12_isBegun 9 = .ok (.iaload, 1) := by decide +kernel
theorem dX12_isBegun_10 : decode cX12_isBegun 10 = .ok (.ifCond .le 183, 3) := by decide +kernel
theorem dX12_isBegun_13 : decode cX12_isBegun 13 = .ok (.aload_n 0, 1) := by decide +kernel
theorem dX12_isBegun_14 : decode cX12_isBegun 14 = .ok (.iload_n 1, 1) := by decide +kernel
theorem dX12_isBegun_15 : decode cX12_isBegun 15 = .ok (.invokevirtual 153, 3) := by decide +kernel
theorem dX12_isBegun_18 : decode cX12_isBegun 18 = .ok (.istore_n 2, 1) := by decide +kernel
theorem dX12_isBegun_19 : decode cX12_isBegun 19 = .ok (.sipush 616, 3) := by decide +kernel
theorem dX12_isBegun_22 : decode cX12_isBegun 22 = .ok (.bipush 13, 2) := by decide +kernel
theorem dX12_isBegun_24 : decode cX12_isBegun 24 = .ok (.aload_n 0, 1) := by decide +kernel
theorem dX12_isBegun_25 : decode cX12_isBegun 25 = .ok (.getfield 10, 3) := by decide +kernel
theorem dX12_isBegun_28 : decode cX12_isBegun 28 = .ok (.iload_n 1, 1) := by decide +kernel
theorem dX12_isBegun_29 : decode cX12_isBegun 29 = .ok (.sipush 777, 3) := by decide +kernel
theorem dX12_isBegun_32 : decode cX12_isBegun 32 = .ok (.iadd, 1) := by decide +kernel
theorem dX12_isBegun_33 : decode cX12_isBegun 33 = .ok (.iaload, 1) := by decide +kernel
theorem dX12_isBegun_34 : decode cX12_isBegun 34 = .ok (.imul, 1) := by decide +kernel
theorem dX12_isBegun_35 : decode cX12_isBegun 35 = .ok (.iadd, 1) := by decide +kernel
theorem dX12_isBegun_36 : decode cX12_isBegun 36 = .ok (.bipush 13, 2) := by decide +kernel
theorem dX12_isBegun_38 : decode cX12_isBegun 38 = .ok (.isub, 1) := by decide +kernel
theorem dX12_isBegun_39 : decode cX12_isBegun 39 = .ok (.istore_n 3, 1) := by decide +kernel
theorem dX12_isBegun_40 : decode cX12_isBegun 40 = .ok (.sipush 616, 3) := by decide +kernel
theorem dX12_isBegun_43 : decode cX12_isBegun 43 = .ok (.istore 4, 2) := by decide +kernel
theorem dX12_isBegun_45 : decode cX12_isBegun 45 = .ok (.iload 4, 2) := by decide +kernel
theorem dX12_isBegun_47 : decode cX12_isBegun 47 = .ok (.iload_n 3, 1) := by decide +kernel
theorem dX12_isBegun_48 : decode cX12_isBegun 48 = .ok (.if_icmp .ge 30, 3) := by decide +kernel
theorem dX12_isBegun_51 : decode cX12_isBegun 51 = .ok (.aload_n 0, 1) := by decide +kernel
theorem dX12_isBegun_52 : decode cX12_isBegun 52 = .ok (.getfield 10, 3) := by decide +kernel
theorem dX12_isBegun_55 : decode cX12_isBegun 55 = .ok (.iload_n 1, 1) := by decide +kernel
theorem dX12_isBegun_56 : decode cX12_isBegun 56 = .ok (.iload 4, 2) := by decide +kernel
theorem dX12_isBegun_58 : decode cX12_isBegun 58 = .ok (.iadd, 1) := by decide +kernel
theorem dX12_isBegun_59 : decode cX12_isBegun 59 = .ok (.aload_n 0, 1) := by decide +kernel
theorem dX12_isBegun_60 : decode cX12_isBegun 60 = .ok (.getfield 10, 3) := by decide +kernel
theorem dX12_isBegun_63 : decode cX12_isBegun 63 = .ok (.iload_n 1, 1) := by decide +kernel
theorem dX12_isBegun_64 : decode cX12_isBegun 64 = .ok (.iload 4, 2) := by decide +kernel
theorem dX12_isBegun_66 : decode cX12_isBegun 66 = .ok (.iadd, 1) := by decide +kernel
theorem dX12_isBegun_67 : decode cX12_isBegun 67 = .ok (.bipush 13, 2) := by decide +kernel
theorem dX12_isBegun_69 : decode cX12_isBegun 69 = .ok (.iadd, 1) := by decide +kernel
theorem dX12_isBegun_70 : decode cX12_isBegun 70 = .ok (.iaload, 1) := by decide +kernel
theorem dX12_isBegun_71 : decode cX12_isBegun 71 = .ok (.iastore, 1) := by decide +kernel
theorem dX12_isBegun_72 : decode cX12_isBegun 72 = .ok (.iinc 4 1, 3) := by decide +kernel
theorem dX12_isBegun_75 : decode cX12_isBegun 75 = .ok (.goto (-30), 3) := by decide +kernel
theorem dX12_isBegun_78 : decode cX12_isBegun 78 = .ok (.aload_n 0, 1) := by decide +kernel
theorem dX12_isBegun_79 : decode cX12_isBegun 79 = .ok (.getfield 10, 3) := by decide +kernel
theorem dX12_isBegun_82 : decode cX12_isBegun 82 = .ok (.iload_n 1, 1) := by decide +kernel
theorem dX12_isBegun_83 : decode cX12_isBegun 83 = .ok (.sipush 777, 3) := by decide +kernel
theorem dX12_isBegun_86 : decode cX12_isBegun 86 = .ok (.iadd, 1) := by decide +kernel
theorem dX12_isBegun_87 : decode cX12_isBegun 87 = .ok (.dup2, 1) := by decide +kernel
theorem dX12_isBegun_88 : decode cX12_isBegun 88 = .ok (.iaload, 1) := by decide +kernel
theorem dX12_isBegun_89 : decode cX12_isBegun 89 = .ok (.iconst 1, 1) := by decide +kernel
theorem dX12_isBegun_90 : decode cX12_isBegun 90 = .ok (.isub, 1) := by decide +kernel
theorem dX12_isBegun_91 : decode cX12_isBegun 91 = .ok (.iastore, 1) := by decide +kernel
theorem dX12_isBegun_92 : decode cX12_isBegun 92 = .ok (.iload_n 2, 1) := by decide +kernel
theorem dX12_isBegun_93 : decode cX12_isBegun 93 = .ok (.ifCond .ne 20, 3) := by decide +kernel
theorem dX12_isBegun_96 : decode cX12_isBegun 96 = .ok (.aload_n 0, 1) := by decide +kernel
theorem dX12_isBegun_97 : decode cX12_isBegun 97 = .ok (.getfield 10, 3) := by decide +kernel
theorem dX12_isBegun_100 : decode cX12_isBegun 100 = .ok (.iload_n 1, 1) := by decide +kernel
theorem dX12_isBegun_101 : decode cX12_isBegun 101 = .ok (.sipush 779, 3) := by decide +kernel
theorem dX12_isBegun_104 : decode cX12_isBegun 104 = .ok (.iadd, 1) := by decide +kernel
theorem dX12_isBegun_105 : decode cX12_isBegun 105 = .ok (.dup2, 1) := by decide +kernel
theorem dX12_isBegun_106 : decode cX12_isBegun 106 = .ok (.iaload, 1) := by decide +kernel
theorem dX12_isBegun_107 : decode cX12_isBegun 107 = .ok (.iconst 1, 1) := by decide +kernel
theorem dX12_isBegun_108 : decode cX12_isBegun 108 = .ok (.iadd, 1) := by decide +kernel
theorem dX12_isBegun_109 : decode cX12_isBegun 109 = .ok (.iastore, 1) := by decide +kernel
theorem dX12_isBegun_110 : decode cX12_isBegun 110 = .ok (.goto (-110), 3) := by decide +kernel
theorem dX12_isBegun_113 : decode cX12_isBegun 113 = .ok (.iconst 0, 1) := by decide +kernel
theorem dX12_isBegun_114 : decode cX12_isBegun 114 = .ok (.istore 4, 2) := by decide +kernel
theorem dX12_isBegun_116 : decode cX12_isBegun 116 = .ok (.iload 4, 2) := by decide +kernel
theorem dX12_isBegun_118 : decode cX12_isBegun 118 = .ok (.bipush 44, 2) := by decide +kernel
theorem dX12_isBegun_120 : decode cX12_isBegun 120 = .ok (.if_icmp .ge 55, 3) := by decide +kernel
theorem dX12_isBegun_123 : decode cX12_isBegun 123 = .ok (.aload_n 0, 1) := by decide +kernel
theorem dX12_isBegun_124 : decode cX12_isBegun 124 = .ok (.getfield 10, 3) := by decide +kernel
theorem dX12_isBegun_127 : decode cX12_isBegun 127 = .ok (.iload_n 1, 1) := by decide +kernel
theorem dX12_isBegun_128 : decode cX12_isBegun 128 = .ok (.sipush 572, 3) := by decide +kernel
theorem dX12_isBegun_131 : decode cX12_isBegun 131 = .ok (.iadd, 1) := by decide +kernel
theorem dX12_isBegun_132 : decode cX12_isBegun 132 = .ok (.iload 4, 2) := by decide +kernel
theorem dX12_isBegun_134 : decode cX12_isBegun 134 = .ok (.iadd, 1) := by decide +kernel
theorem dX12_isBegun_135 : decode cX12_isBegun 135 = .ok (.aload_n 0, 1) := by decide +kernel
theorem dX12_isBegun_136 : decode cX12_isBegun 136 = .ok (.getfield 30, 3) := by decide +kernel
theorem dX12_isBegun_139 : decode cX12_isBegun 139 = .ok (.bipush 20, 2) := by decide +kernel
theorem dX12_isBegun_141 : decode cX12_isBegun 141 = .ok (.iload 4, 2) := by decide +kernel
theorem dX12_isBegun_143 : decode cX12_isBegun 143 = .ok (.iadd, 1) := by decide +kernel
theorem dX12_isBegun_144 : decode cX12_isBegun 144 = .ok (.iaload, 1) := by decide +kernel
theorem dX12_isBegun_145 : decode cX12_isBegun 145 = .ok (.iastore, 1) := by decide +kernel
theorem dX12_isBegun_146 : decode cX12_isBegun 146 = .ok (.aload_n 0, 1) := by decide +kernel
theorem dX12_isBegun_147 : decode cX12_isBegun 147 = .ok (.getfield 10, 3) := by decide +kernel
theorem dX12_isBegun_150 : decode cX12_isBegun 150 = .ok (.iload_n 1, 1) := by decide +kernel
theorem dX12_isBegun_151 : decode cX12_isBegun 151 = .ok (.sipush 528, 3) := by decide +kernel
theorem dX12_isBegun_154 : decode cX12_isBegun 154 = .ok (.iadd, 1) := by decide +kernel
theorem dX12_isBegun_155 : decode cX12_isBegun 155 = .ok (.iload 4, 2) := by decide +kernel
theorem dX12_isBegun_157 : decode cX12_isBegun 157 = .ok (.iadd, 1) := by decide +kernel
theorem dX12_isBegun_158 : decode cX12_isBegun 158 = .ok (.aload_n 0, 1) := by decide +kernel
theorem dX12_isBegun_159 : decode cX12_isBegun 159 = .ok (.iload_n 1, 1) := by decide +kernel
theorem dX12_isBegun_160 : decode cX12_isBegun 160 = .ok (.bipush 20, 2) := by decide +kernel
theorem dX12_isBegun_162 : decode cX12_isBegun 162 = .ok (.iload 4, 2) := by decide +kernel
theorem dX12_isBegun_164 : decode cX12_isBegun 164 = .ok (.iadd, 1) := by decide +kernel
theorem dX12_isBegun_165 : decode cX12_isBegun 165 = .ok (.invokevirtual 118, 3) := by decide +kernel
theorem dX12_isBegun_168 : decode cX12_isBegun 168 = .ok (.iastore, 1) := by decide +kernel
theorem dX12_isBegun_169 : decode cX12_isBegun 169 = .ok (.iinc 4 1, 3) := by decide +kernel
theorem dX12_isBegun_172 : decode cX12_isBegun 172 = .ok (.goto (-56), 3) := by decide +kernel
theorem dX12_isBegun_175 : decode cX12_isBegun 175 = .ok (.aload_n 0, 1) := by decide +kernel
theorem dX12_isBegun_176 : decode cX12_isBegun 176 = .ok (.iload_n 1, 1) := by decide +kernel
theorem dX12_isBegun_177 : decode cX12_isBegun 177 = .ok (.invokevirtual 157, 3) := by decide +kernel
theorem dX12_isBegun_180 : decode cX12_isBegun 180 = .ok (.aload_n 0, 1) := by decide +kernel
theorem dX12_isBegun_181 : decode cX12_isBegun 181 = .ok (.getfield 10, 3) := by decide +kernel
theorem dX12_isBegun_184 : decode cX12_isBegun 184 = .ok (.iload_n 1, 1) := by decide +kernel
theorem dX12_isBegun_185 : decode cX12_isBegun 185 = .ok (.sipush 776, 3) := by decide +kernel
theorem dX12_isBegun_188 : decode cX12_isBegun 188 = .ok (.iadd, 1) := by decide +kernel
theorem dX12_isBegun_189 : decode cX12_isBegun 189 = .ok (.iconst 1, 1) := by decide +kernel
theorem dX12_isBegun_190 : decode cX12_isBegun 190 = .ok (.iastore, 1) := by decide +kernel
theorem dX12_isBegun_191 : decode cX12_isBegun 191 = .ok (.iconst 1, 1) := by decide +kernel
theorem dX12_isBegun_192 : decode cX12_isBegun 192 = .ok (.ireturn, 1) := by decide +kernel
theorem dX12_isBegun_193 : decode cX12_isBegun 193 = .ok (.iconst 0, 1) := by decide +kernel
theorem dX12_isBegun_194 : decode cX12_isBegun 194 = .ok (.ireturn, 1) := by decide +kernel
set_option maxRecDepth 20000 in
theorem ggX12_isStep_X12_isBegun : GoodIn wsX12_isStep wsX12_isBegun := goodIn_r _ [6, 1, 7, 8, 9, 10, 5, 11, 12, 13, 14, 15, 16, 17, 18, 19, 20, 21, 22, 23, 24, 25, 26, 27, 28, 29, 30, 31, 32, 33, 34, 35, 36, 37, 38, 39, 40, 41, 42, 43, 44, 45, 46, 47, 48, 49, 50, 51, 52, 53, 54, 55, 56, 57, 58, 59, 60, 61, 62, 63, 64, 65, 66, 67, 68, 69, 70, 71, 72, 73, 74, 75, 76, 77, 78, 79, 80, 81, 82, 83, 84, 85, 86, 87, 88, 89, 102, 103, 104, 105, 106, 107, 108, 109, 110, 111, 112, 113, 114, 115, 116, 117, 118, 119, 120, 121, 122, 123, 124, 125, 126, 127, 128, 129, 130, 131, 132, 133, 134, 135, 136, 137, 138, 139, 140, 141, 142, 143, 144, 145, 146, 147, 148, 149, 150, 151, 152] (by decide +kernel) (by decide +kernel)
set_option maxRecDepth 20000 in
theorem gX12_isStep_X12_isBegun : GoodIn wsX12_isStep (wsV RX12 160 RX12 yX12_isBegun wsX12_isBegun) := goodIn_app (goodIn_of _ (by decide +kernel)) ggX12_isStep_X12_isBegun
set_option maxRecDepth 20000 in
theorem ggX12_isStep_X12_does : GoodIn wsX12_isStep wsX12_does := goodIn_r _ [93, 1, 94, 95, 96, 5, 97, 98, 99, 100, 101, 102, 103, 104, 105, 106, 107, 108, 109, 110, 111, 112, 113, 114, 115, 116, 117, 118, 119, 120, 121, 122, 123, 124, 125, 126, 127, 128, 129, 130, 131, 132, 133, 134, 135, 136, 137, 138, 139, 140, 141, 142, 143, 144, 145, 146, 147, 148, 149, 150, 151, 152] (by decide +kernel) (by decide +kernel)
set_option maxRecDepth 20000 in
theorem gX12_isStep_X12_does : GoodIn wsX12_isStep (wsV RX12 163 RX12 yX12_does wsX12_does) := goodIn_app (goodIn_of _ (by decide +kernel)) ggX12_isStep_X12_does
theorem dX12_isStep_0 : decode cX12_isStep 0 = .ok (.aload_n 0, 1) := by decide +kernel
theorem dX12_isStep_1 : decode cX12_isStep 1 = .ok (.getfield 10, 3) := by decide +kernel
theorem dX12_isStep_4 : decode cX12_isStep 4 = .ok (.iload_n 1, 1) := by decide +kernel
theorem dX12_isStep_5 : decode cX12_isStep 5 = .ok (.sipush 772, 3) := by decide +kernel
theorem dX12_isStep_8 : decode cX12_isStep 8 = .ok (.iadd, 1) := by decide +kernel
theorem dX12_isStep_9 : decode cX12_isStep 9 = .ok (.iaload, 1) := by decide +kernel
theorem dX12_isStep_10 : decode cX12_isStep 10 = .ok (.iconst 1, 1) := by decide +kernel
theorem dX12_isStep_11 : decode cX12_isStep 11 = .ok (.if_icmp .ne 5, 3) := by decide +kernel
theorem dX12_isStep_14 : decode cX12_isStep 14 = .ok (.iconst 0, 1) := by decide +kernel
theorem dX12_isStep_15 : decode cX12_isStep 15 = .ok (.ireturn, 1) := by decide +kernel
theorem dX12_isStep_16 : decode cX12_isStep 16 = .ok (.aload_n 0, 1) := by decide +kernel
theorem dX12_isStep_17 : decode cX12_isStep 17 = .ok (.getfield 10, 3) := by decide +kernel
theorem dX12_isStep_20 : decode cX12_isStep 20 = .ok (.iload_n 1, 1) := by decide +kernel
theorem dX12_isStep_21 : decode cX12_isStep 21 = .ok (.sipush 776, 3) := by decide +kernel
theorem dX12_isStep_24 : decode cX12_isStep 24 = .ok (.iadd, 1) := by decide +kernel
theorem dX12_isStep_25 : decode cX12_isStep 25 = .ok (.iaload, 1) := by decide +kernel
theorem dX12_isStep_26 : decode cX12_isStep 26 = .ok (.ifCond .ne 13, 3) := by decide +kernel
theorem dX12_isStep_29 : decode cX12_isStep 29 = .ok (.aload_n 0, 1) := by decide +kernel
theorem dX12_isStep_30 : decode cX12_isStep 30 = .ok (.iload_n 1, 1) := by decide +kernel
theorem dX12_isStep_31 : decode cX12_isStep 31 = .ok (.invokevirtual 160, 3) := by decide +kernel
theorem dX12_isStep_34 : decode cX12_isStep 34 = .ok (.ifCond .ne 5, 3) := by decide +kernel
theorem dX12_isStep_37 : decode cX12_isStep 37 = .ok (.iconst 0, 1) := by decide +kernel
theorem dX12_isStep_38 : decode cX12_isStep 38 = .ok (.ireturn, 1) := by decide +kernel
theorem dX12_isStep_39 : decode cX12_isStep 39 = .ok (.iload_n 1, 1) := by decide +kernel
theorem dX12_isStep_40 : decode cX12_isStep 40 = .ok (.sipush 288, 3) := by decide +kernel
theorem dX12_isStep_43 : decode cX12_isStep 43 = .ok (.iadd, 1) := by decide +kernel
theorem dX12_isStep_44 : decode cX12_isStep 44 = .ok (.iconst 3, 1) := by decide +kernel
theorem dX12_isStep_45 : decode cX12_isStep 45 = .ok (.aload_n 0, 1) := by decide +kernel
theorem dX12_isStep_46 : decode cX12_isStep 46 = .ok (.getfield 10, 3) := by decide +kernel
theorem dX12_isStep_49 : decode cX12_isStep 49 = .ok (.iload_n 1, 1) := by decide +kernel
theorem dX12_isStep_50 : decode cX12_isStep 50 = .ok (.sipush 775, 3) := by decide +kernel
theorem dX12_isStep_53 : decode cX12_isStep 53 = .ok (.iadd, 1) := by decide +kernel
theorem dX12_isStep_54 : decode cX12_isStep 54 = .ok (.iaload, 1) := by decide +kernel
theorem dX12_isStep_55 : decode cX12_isStep 55 = .ok (.imul, 1) := by decide +kernel
theorem dX12_isStep_56 : decode cX12_isStep 56 = .ok (.iadd, 1) := by decide +kernel
theorem dX12_isStep_57 : decode cX12_isStep 57 = .ok (.istore_n 2, 1) := by decide +kernel
theorem dX12_isStep_58 : decode cX12_isStep 58 = .ok (.aload_n 0, 1) := by decide +kernel
theorem dX12_isStep_59 : decode cX12_isStep 59 = .ok (.iload_n 1, 1) := by decide +kernel
theorem dX12_isStep_60 : decode cX12_isStep 60 = .ok (.aload_n 0, 1) := by decide +kernel
theorem dX12_isStep_61 : decode cX12_isStep 61 = .ok (.getfield 10, 3) := by decide +kernel
theorem dX12_isStep_64 : decode cX12_isStep 64 = .ok (.iload_n 2, 1) := by decide +kernel
theorem dX12_isStep_65 : decode cX12_isStep 65 = .ok (.iaload, 1) := by decide +kernel
theorem dX12_isStep_66 : decode cX12_isStep 66 = .ok (.aload_n 0, 1) := by decide +kernel
theorem dX12_isStep_67 : decode cX12_isStep 67 = .ok (.getfield 10, 3) := by decide +kernel
theorem dX12_isStep_70 : decode cX12_isStep 70 = .ok (.iload_n 2, 1) := by decide +kernel
theorem dX12_isStep_71 : decode cX12_isStep 71 = .ok (.iconst 1, 1) := by decide +kernel
theorem dX12_isStep_72 : decode cX12_isStep 72 = .ok (.iadd, 1) := by decide +kernel
theorem dX12_isStep_73 : decode cX12_isStep 73 = .ok (.iaload, 1) := by decide +kernel
theorem dX12_isStep_74 : decode cX12_isStep 74 = .ok (.aload_n 0, 1) := by decide +kernel
theorem dX12_isStep_75 : decode cX12_isStep 75 = .ok (.getfield 10, 3) := by decide +kernel
theorem dX12_isStep_78 : decode cX12_isStep 78 = .ok (.iload_n 2, 1) := by decide +kernel
theorem dX12_isStep_79 : decode cX12_isStep 79 = .ok (.iconst 2, 1) := by decide +kernel
theorem dX12_isStep_80 : decode cX12_isStep 80 = .ok (.iadd, 1) := by decide +kernel
theorem dX12_isStep_81 : decode cX12_isStep 81 = .ok (.iaload, 1) := by decide +kernel
theorem dX12_isStep_82 : decode cX12_isStep 82 = .ok (.invokevirtual 163, 3) := by decide +kernel
theorem dX12_isStep_85 : decode cX12_isStep 85 = .ok (.aload_n 0, 1) := by decide +kernel
theorem dX12_isStep_86 : decode cX12_isStep 86 = .ok (.getfield 10, 3) := by decide +kernel
theorem dX12_isStep_89 : decode cX12_isStep 89 = .ok (.iload_n 1, 1) := by decide +kernel
theorem dX12_isStep_90 : decode cX12_isStep 90 = .ok (.sipush 775, 3) := by decide +kernel
theorem dX12_isStep_93 : decode cX12_isStep 93 = .ok (.iadd, 1) := by decide +kernel
theorem dX12_isStep_94 : decode cX12_isStep 94 = .ok (.dup2, 1) := by decide +kernel
theorem dX12_isStep_95 : decode cX12_isStep 95 = .ok (.iaload, 1) := by decide +kernel
theorem dX12_isStep_96 : decode cX12_isStep 96 = .ok (.iconst 1, 1) := by decide +kernel
theorem dX12_isStep_97 : decode cX12_isStep 97 = .ok (.iadd, 1) := by decide +kernel
theorem dX12_isStep_98 : decode cX12_isStep 98 = .ok (.iastore, 1) := by decide +kernel
theorem dX12_isStep_99 : decode cX12_isStep 99 = .ok (.aload_n 0, 1) := by decide +kernel
theorem dX12_isStep_100 : decode cX12_isStep 100 = .ok (.getfield 10, 3) := by decide +kernel
theorem dX12_isStep_103 : decode cX12_isStep 103 = .ok (.iload_n 1, 1) := by decide +kernel
theorem dX12_isStep_104 : decode cX12_isStep 104 = .ok (.sipush 782, 3) := by decide +kernel
theorem dX12_isStep_107 : decode cX12_isStep 107 = .ok (.iadd, 1) := by decide +kernel
theorem dX12_isStep_108 : decode cX12_isStep 108 = .ok (.dup2, 1) := by decide +kernel
theorem dX12_isStep_109 : decode cX12_isStep 109 = .ok (.iaload, 1) := by decide +kernel
theorem dX12_isStep_110 : decode cX12_isStep 110 = .ok (.iconst 1, 1) := by decide +kernel
theorem dX12_isStep_111 : decode cX12_isStep 111 = .ok (.iadd, 1) := by decide +kernel
theorem dX12_isStep_112 : decode cX12_isStep 112 = .ok (.iastore, 1) := by decide +kernel
theorem dX12_isStep_113 : decode cX12_isStep 113 = .ok (.aload_n 0, 1) := by decide +kernel
theorem dX12_isStep_114 : decode cX12_isStep 114 = .ok (.getfield 10, 3) := by decide +kernel
theorem dX12_isStep_117 : decode cX12_isStep 117 = .ok (.iload_n 1, 1) := by decide +kernel
theorem dX12_isStep_118 : decode cX12_isStep 118 = .ok (.sipush 775, 3) := by decide +kernel
theorem dX12_isStep_121 : decode cX12_isStep 121 = .ok (.iadd, 1) := by decide +kernel
theorem dX12_isStep_122 : decode cX12_isStep 122 = .ok (.iaload, 1) := by decide +kernel
theorem dX12_isStep_123 : decode cX12_isStep 123 = .ok (.aload_n 0, 1) := by decide +kernel
theorem dX12_isStep_124 : decode cX12_isStep 124 = .ok (.getfield 10, 3) := by decide +kernel
theorem dX12_isStep_127 : decode cX12_isStep 127 = .ok (.iload_n 1, 1) := by decide +kernel
theorem dX12_isStep_128 : decode cX12_isStep 128 = .ok (.sipush 774, 3) := by decide +kernel
theorem dX12_isStep_131 : decode cX12_isStep 131 = .ok (.iadd, 1) := by decide +kernel
theorem dX12_isStep_132 : decode cX12_isStep 132 = .ok (.iaload, 1) := by decide +kernel
theorem dX12_isStep_133 : decode cX12_isStep 133 = .ok (.if_icmp .ge 5, 3) := by decide +kernel
theorem dX12_isStep_136 : decode cX12_isStep 136 = .ok (.iconst 1, 1) := by decide +kernel
theorem dX12_isStep_137 : decode cX12_isStep 137 = .ok (.ireturn, 1) := by decide +kernel
theorem dX12_isStep_138 : decode cX12_isStep 138 = .ok (.aload_n 0, 1) := by decide +kernel
theorem dX12_isStep_139 : decode cX12_isStep 139 = .ok (.getfield 10, 3) := by decide +kernel
theorem dX12_isStep_142 : decode cX12_isStep 142 = .ok (.iload_n 1, 1) := by decide +kernel
theorem dX12_isStep_143 : decode cX12_isStep 143 = .ok (.sipush 776, 3) := by decide +kernel
theorem dX12_isStep_146 : decode cX12_isStep 146 = .ok (.iadd, 1) := by decide +kernel
theorem dX12_isStep_147 : decode cX12_isStep 147 = .ok (.iaload, 1) := by decide +kernel
theorem dX12_isStep_148 : decode cX12_isStep 148 = .ok (.iconst 1, 1) := by decide +kernel
theorem dX12_isStep_149 : decode cX12_isStep 149 = .ok (.if_icmp .ne 17, 3) := by decide +kernel
theorem dX12_isStep_152 : decode cX12_isStep 152 = .ok (.aload_n 0, 1) := by decide +kernel
theorem dX12_isStep_153 : decode cX12_isStep 153 = .ok (.getfield 10, 3) := by decide +kernel
theorem dX12_isStep_156 : decode cX12_isStep 156 = .ok (.iload_n 1, 1) := by decide +kernel
theorem dX12_isStep_157 : decode cX12_isStep 157 = .ok (.sipush 778, 3) := by decide +kernel
theorem dX12_isStep_160 : decode cX12_isStep 160 = .ok (.iadd, 1) := by decide +kernel
theorem dX12_isStep_161 : decode cX12_isStep 161 = .ok (.dup2, 1) := by decide +kernel
theorem dX12_isStep_162 : decode cX12_isStep 162 = .ok (.iaload, 1) := by decide +kernel
theorem dX12_isStep_163 : decode cX12_isStep 163 = .ok (.iconst 1, 1) := by decide +kernel
theorem dX12_isStep_164 : decode cX12_isStep 164 = .ok (.iadd, 1) := by decide +kernel
theorem dX12_isStep_165 : decode cX12_isStep 165 = .ok (.iastore, 1) := by decide +kernel
theorem dX12_isStep_166 : decode cX12_isStep 166 = .ok (.aload_n 0, 1) := by decide +kernel
theorem dX12_isStep_167 : decode cX12_isStep 167 = .ok (.getfield 10, 3) := by decide +kernel
theorem dX12_isStep_170 : decode cX12_isStep 170 = .ok (.iload_n 1, 1) := by decide +kernel
theorem dX12_isStep_171 : decode cX12_isStep 171 = .ok (.sipush 772, 3) := by decide +kernel
theorem dX12_isStep_174 : decode cX12_isStep 174 = .ok (.iadd, 1) := by decide +kernel
theorem dX12_isStep_175 : decode cX12_isStep 175 = .ok (.iconst 0, 1) := by decide +kernel
theorem dX12_isStep_176 : decode cX12_isStep 176 = .ok (.iastore, 1) := by decide +kernel
theorem dX12_isStep_177 : decode cX12_isStep 177 = .ok (.aload_n 0, 1) := by decide +kernel
theorem dX12_isStep_178 : decode cX12_isStep 178 = .ok (.getfield 10, 3) := by decide +kernel
theorem dX12_isStep_181 : decode cX12_isStep 181 = .ok (.iload_n 1, 1) := by decide +kernel
theorem dX12_isStep_182 : decode cX12_isStep 182 = .ok (.sipush 776, 3) := by decide +kernel
theorem dX12_isStep_185 : decode cX12_isStep 185 = .ok (.iadd, 1) := by decide +kernel
theorem dX12_isStep_186 : decode cX12_isStep 186 = .ok (.iconst 0, 1) := by decide +kernel
theorem dX12_isStep_187 : decode cX12_isStep 187 = .ok (.iastore, 1) := by decide +kernel
theorem dX12_isStep_188 : decode cX12_isStep 188 = .ok (.aload_n 0, 1) := by decide +kernel
theorem dX12_isStep_189 : decode cX12_isStep 189 = .ok (.getfield 10, 3) := by decide +kernel
theorem dX12_isStep_192 : decode cX12_isStep 192 = .ok (.iload_n 1, 1) := by decide +kernel
theorem dX12_isStep_193 : decode cX12_isStep 193 = .ok (.sipush 774, 3) := by decide +kernel
theorem dX12_isStep_196 : decode cX12_isStep 196 = .ok (.iadd, 1) := by decide +kernel
theorem dX12_isStep_197 : decode cX12_isStep 197 = .ok (.iconst 0, 1) := by decide +kernel
theorem dX12_isStep_198 : decode cX12_isStep 198 = .ok (.iastore, 1) := by decide +kernel
theorem dX12_isStep_199 : decode cX12_isStep 199 = .ok (.aload_n 0, 1) := by decide +kernel
theorem dX12_isStep_200 : decode cX12_isStep 200 = .ok (.getfield 10, 3) := by decide +kernel
theorem dX12_isStep_203 : decode cX12_isStep 203 = .ok (.iload_n 1, 1) := by decide +kernel
theorem dX12_isStep_204 : decode cX12_isStep 204 = .ok (.sipush 775, 3) := by decide +kernel
theorem dX12_isStep_207 : decode cX12_isStep 207 = .ok (.iadd, 1) := by decide +kernel
theorem dX12_isStep_208 : decode cX12_isStep 208 = .ok (.iconst 0, 1) := by decide +kernel
theorem dX12_isStep_209 : decode cX12_isStep 209 = .ok (.iastore, 1) := by decide +kernel
theorem dX12_isStep_210 : decode cX12_isStep 210 = .ok (.iconst 1, 1) := by decide +kernel
theorem dX12_isStep_211 : decode cX12_isStep 211 = .ok (.ireturn, 1) := by decide +kernel
theorem dX12_entryAt_0 : decode cX12_entryAt 0 = .ok (.iconst 4, 1) := by decide +kernel
theorem dX12_entryAt_1 : decode cX12_entryAt 1 = .ok (.iconst 2, 1) := by decide +kernel
theorem dX12_entryAt_2 : decode cX12_entryAt 2 = .ok (.aload_n 0, 1) := by decide +kernel
theorem dX12_entryAt_3 : decode cX12_entryAt 3 = .ok (.getfield 147, 3) := by decide +kernel
theorem dX12_entryAt_6 : decode cX12_entryAt 6 = .ok (.iconst 1, 1) := by decide +kernel
theorem dX12_entryAt_7 : decode cX12_entryAt 7 = .ok (.if_icmp .ne 7, 3) := by decide +kernel
theorem dX12_entryAt_10 : decode cX12_entryAt 10 = .ok (.iload_n 2, 1) := by decide +kernel
theorem dX12_entryAt_11 : decode cX12_entryAt 11 = .ok (.goto 8, 3) := by decide +kernel
theorem dX12_entryAt_14 : decode cX12_entryAt 14 = .ok (.iload_n 1, 1) := by decide +kernel
theorem dX12_entryAt_15 : decode cX12_entryAt 15 = .ok (.iconst 1, 1) := by decide +kernel
theorem dX12_entryAt_16 : decode cX12_entryAt 16 = .ok (.isub, 1) := by decide +kernel
theorem dX12_entryAt_17 : decode cX12_entryAt 17 = .ok (.iload_n 2, 1) := by decide +kernel
theorem dX12_entryAt_18 : decode cX12_entryAt 18 = .ok (.isub, 1) := by decide +kernel
theorem dX12_entryAt_19 : decode cX12_entryAt 19 = .ok (.imul, 1) := by decide +kernel
theorem dX12_entryAt_20 : decode cX12_entryAt 20 = .ok (.iadd, 1) := by decide +kernel
theorem dX12_entryAt_21 : decode cX12_entryAt 21 = .ok (.ireturn, 1) := by decide +kernel
theorem dX12_counted_0 : decode cX12_counted 0 = .ok (.aload_n 0, 1) := by decide +kernel
theorem dX12_counted_1 : decode cX12_counted 1 = .ok (.iconst 0, 1) := by decide +kernel
theorem dX12_counted_2 : decode cX12_counted 2 = .ok (.iaload, 1) := by decide +kernel
theorem dX12_counted_3 : decode cX12_counted 3 = .ok (.bipush 8, 2) := by decide +kernel
theorem dX12_counted_5 : decode cX12_counted 5 = .ok (.if_icmp .le 8, 3) := by decide +kernel
theorem dX12_counted_8 : decode cX12_counted 8 = .ok (.bipush 8, 2) := by decide +kernel
theorem dX12_counted_10 : decode cX12_counted 10 = .ok (.goto 6, 3) := by decide +kernel
theorem dX12_counted_13 : decode cX12_counted 13 = .ok (.aload_n 0, 1) := by decide +kernel
theorem dX12_counted_14 : decode cX12_counted 14 = .ok (.iconst 0, 1) := by decide +kernel
theorem dX12_counted_15 : decode cX12_counted 15 = .ok (.iaload, 1) := by decide +kernel
theorem dX12_counted_16 : decode cX12_counted 16 = .ok (.ireturn, 1) := by decide +kernel
set_option maxRecDepth 20000 in
theorem ggX12_recovers_X12_counted : GoodIn wsX12_recovers wsX12_counted := goodIn_r _ [4] (by decide +kernel) (by decide +kernel)
set_option maxRecDepth 20000 in
theorem gX12_recovers_X12_counted : GoodIn wsX12_recovers (va_wsS RX12 166 yX12_counted wsX12_counted) := goodIn_app (goodIn_of _ (by decide +kernel)) ggX12_recovers_X12_counted
set_option maxRecDepth 20000 in
theorem ggX12_recovers_X12_entryAt : GoodIn wsX12_recovers wsX12_entryAt := goodIn_r _ [8, 9, 13, 14, 15, 16, 17, 18, 19, 20, 21, 22, 23, 24, 25, 26, 27, 28, 29, 30, 31, 32, 33, 34, 35, 36, 37, 38, 39, 40, 41, 42, 43, 44, 45, 46, 47, 48, 49, 50, 51, 52, 53, 54, 55, 56, 57, 58, 59, 60, 61, 62, 63] (by decide +kernel) (by decide +kernel)
set_option maxRecDepth 20000 in
theorem gX12_recovers_X12_entryAt : GoodIn wsX12_recovers (wsV RX12 169 RX12 yX12_entryAt wsX12_entryAt) := goodIn_app (goodIn_of _ (by decide +kernel)) ggX12_recovers_X12_entryAt
set_option maxRecDepth 20000 in
theorem ggX12_recovers_X12_within : GoodIn wsX12_recovers wsX12_within := goodIn_r _ [12] (by decide +kernel) (by decide +kernel)
set_option maxRecDepth 20000 in
theorem gX12_recovers_X12_within : GoodIn wsX12_recovers (va_wsS RX12 172 yX12_within wsX12_within) := goodIn_app (goodIn_of _ (by decide +kernel)) ggX12_recovers_X12_within
theorem dX12_recovers_0 : decode cX12_recovers 0 = .ok (.aload_n 1, 1) := by decide +kernel
theorem dX12_recovers_1 : decode cX12_recovers 1 = .ok (.invokestatic 166, 3) := by decide +kernel
theorem dX12_recovers_4 : decode cX12_recovers 4 = .ok (.istore_n 2, 1) := by decide +kernel
theorem dX12_recovers_5 : decode cX12_recovers 5 = .ok (.iconst 0, 1) := by decide +kernel
theorem dX12_recovers_6 : decode cX12_recovers 6 = .ok (.istore_n 3, 1) := by decide +kernel
theorem dX12_recovers_7 : decode cX12_recovers 7 = .ok (.iload_n 3, 1) := by decide +kernel
theorem dX12_recovers_8 : decode cX12_recovers 8 = .ok (.iload_n 2, 1) := by decide +kernel
theorem dX12_recovers_9 : decode cX12_recovers 9 = .ok (.if_icmp .ge 43, 3) := by decide +kernel
theorem dX12_recovers_12 : decode cX12_recovers 12 = .ok (.aload_n 0, 1) := by decide +kernel
theorem dX12_recovers_13 : decode cX12_recovers 13 = .ok (.iload_n 2, 1) := by decide +kernel
theorem dX12_recovers_14 : decode cX12_recovers 14 = .ok (.iload_n 3, 1) := by decide +kernel
theorem dX12_recovers_15 : decode cX12_recovers 15 = .ok (.invokevirtual 169, 3) := by decide +kernel
theorem dX12_recovers_18 : decode cX12_recovers 18 = .ok (.istore 4, 2) := by decide +kernel
theorem dX12_recovers_20 : decode cX12_recovers 20 = .ok (.aload_n 1, 1) := by decide +kernel
theorem dX12_recovers_21 : decode cX12_recovers 21 = .ok (.iload 4, 2) := by decide +kernel
theorem dX12_recovers_23 : decode cX12_recovers 23 = .ok (.iaload, 1) := by decide +kernel
theorem dX12_recovers_24 : decode cX12_recovers 24 = .ok (.bipush 20, 2) := by decide +kernel
theorem dX12_recovers_26 : decode cX12_recovers 26 = .ok (.bipush 63, 2) := by decide +kernel
theorem dX12_recovers_28 : decode cX12_recovers 28 = .ok (.invokestatic 172, 3) := by decide +kernel
theorem dX12_recovers_31 : decode cX12_recovers 31 = .ok (.ifCond .eq 15, 3) := by decide +kernel
theorem dX12_recovers_34 : decode cX12_recovers 34 = .ok (.aload_n 1, 1) := by decide +kernel
theorem dX12_recovers_35 : decode cX12_recovers 35 = .ok (.aload_n 1, 1) := by decide +kernel
theorem dX12_recovers_36 : decode cX12_recovers 36 = .ok (.iload 4, 2) := by decide +kernel
theorem dX12_recovers_38 : decode cX12_recovers 38 = .ok (.iaload, 1) := by decide +kernel
theorem dX12_recovers_39 : decode cX12_recovers 39 = .ok (.aload_n 1, 1) := by decide +kernel
theorem dX12_recovers_40 : decode cX12_recovers 40 = .ok (.iload 4, 2) := by decide +kernel
theorem dX12_recovers_42 : decode cX12_recovers 42 = .ok (.iconst 1, 1) := by decide +kernel
theorem dX12_recovers_43 : decode cX12_recovers 43 = .ok (.iadd, 1) := by decide +kernel
theorem dX12_recovers_44 : decode cX12_recovers 44 = .ok (.iaload, 1) := by decide +kernel
theorem dX12_recovers_45 : decode cX12_recovers 45 = .ok (.iastore, 1) := by decide +kernel
theorem dX12_recovers_46 : decode cX12_recovers 46 = .ok (.iinc 3 1, 3) := by decide +kernel
theorem dX12_recovers_49 : decode cX12_recovers 49 = .ok (.goto (-42), 3) := by decide +kernel
theorem dX12_recovers_52 : decode cX12_recovers 52 = .ok (.aload_n 1, 1) := by decide +kernel
theorem dX12_recovers_53 : decode cX12_recovers 53 = .ok (.iconst 0, 1) := by decide +kernel
theorem dX12_recovers_54 : decode cX12_recovers 54 = .ok (.iconst 0, 1) := by decide +kernel
theorem dX12_recovers_55 : decode cX12_recovers 55 = .ok (.iastore, 1) := by decide +kernel
theorem dX12_recovers_56 : decode cX12_recovers 56 = .ok (.return_, 1) := by decide +kernel
theorem dX12_laysMemory_0 : decode cX12_laysMemory 0 = .ok (.iconst 0, 1) := by decide +kernel
theorem dX12_laysMemory_1 : decode cX12_laysMemory 1 = .ok (.istore_n 2, 1) := by decide +kernel
theorem dX12_laysMemory_2 : decode cX12_laysMemory 2 = .ok (.iload_n 2, 1) := by decide +kernel
theorem dX12_laysMemory_3 : decode cX12_laysMemory 3 = .ok (.bipush 64, 2) := by decide +kernel
theorem dX12_laysMemory_5 : decode cX12_laysMemory 5 = .ok (.if_icmp .ge 23, 3) := by decide +kernel
theorem dX12_laysMemory_8 : decode cX12_laysMemory 8 = .ok (.aload_n 0, 1) := by decide +kernel
theorem dX12_laysMemory_9 : decode cX12_laysMemory 9 = .ok (.getfield 39, 3) := by decide +kernel
theorem dX12_laysMemory_12 : decode cX12_laysMemory 12 = .ok (.iload_n 2, 1) := by decide +kernel
theorem dX12_laysMemory_13 : decode cX12_laysMemory 13 = .ok (.aload_n 0, 1) := by decide +kernel
theorem dX12_laysMemory_14 : decode cX12_laysMemory 14 = .ok (.getfield 10, 3) := by decide +kernel
theorem dX12_laysMemory_17 : decode cX12_laysMemory 17 = .ok (.iload_n 1, 1) := by decide +kernel
theorem dX12_laysMemory_18 : decode cX12_laysMemory 18 = .ok (.iload_n 2, 1) := by decide +kernel
theorem dX12_laysMemory_19 : decode cX12_laysMemory 19 = .ok (.iadd, 1) := by decide +kernel
theorem dX12_laysMemory_20 : decode cX12_laysMemory 20 = .ok (.iaload, 1) := by decide +kernel
theorem dX12_laysMemory_21 : decode cX12_laysMemory 21 = .ok (.iastore, 1) := by decide +kernel
theorem dX12_laysMemory_22 : decode cX12_laysMemory 22 = .ok (.iinc 2 1, 3) := by decide +kernel
theorem dX12_laysMemory_25 : decode cX12_laysMemory 25 = .ok (.goto (-23), 3) := by decide +kernel
theorem dX12_laysMemory_28 : decode cX12_laysMemory 28 = .ok (.return_, 1) := by decide +kernel
set_option maxRecDepth 20000 in
theorem ggX12_recovery_X12_laysMemory : GoodIn wsX12_recovery wsX12_laysMemory := goodIn_r _ [10, 2, 1, 50, 51, 52, 53, 54, 55, 56, 57, 58, 59, 60, 61, 62, 63, 64, 65, 66, 67, 68, 69, 70, 71, 72, 73, 74, 75, 76, 77, 78, 79, 80, 81, 82, 83, 84, 85, 86, 87, 88, 89, 90, 91, 92, 93, 94, 95, 96, 97, 98, 99, 100] (by decide +kernel) (by decide +kernel)
set_option maxRecDepth 20000 in
theorem gX12_recovery_X12_laysMemory : GoodIn wsX12_recovery (wsV RX12 175 RX12 yX12_laysMemory wsX12_laysMemory) := goodIn_app (goodIn_of _ (by decide +kernel)) ggX12_recovery_X12_laysMemory
set_option maxRecDepth 20000 in
theorem ggX12_recovery_X12_counted : GoodIn wsX12_recovery wsX12_counted := goodIn_r _ [13] (by decide +kernel) (by decide +kernel)
set_option maxRecDepth 20000 in
theorem gX12_recovery_X12_counted : GoodIn wsX12_recovery (va_wsS RX12 166 yX12_counted wsX12_counted) := goodIn_app (goodIn_of _ (by decide +kernel)) ggX12_recovery_X12_counted
set_option maxRecDepth 20000 in
theorem ggX12_recovery_X12_entryAt : GoodIn wsX12_recovery wsX12_entryAt := goodIn_r _ [17, 18, 50, 51, 52, 53, 54, 55, 56, 57, 58, 59, 60, 61, 62, 63, 64, 65, 66, 67, 68, 69, 70, 71, 72, 73, 74, 75, 76, 77, 78, 79, 80, 81, 82, 83, 84, 85, 86, 87, 88, 89, 90, 91, 92, 93, 94, 95, 96, 97, 98, 99, 100] (by decide +kernel) (by decide +kernel)
set_option maxRecDepth 20000 in
theorem gX12_recovery_X12_entryAt : GoodIn wsX12_recovery (wsV RX12 169 RX12 yX12_entryAt wsX12_entryAt) := goodIn_app (goodIn_of _ (by decide +kernel)) ggX12_recovery_X12_entryAt
set_option maxRecDepth 20000 in
theorem ggX12_recovery_X12_within : GoodIn wsX12_recovery wsX12_within := goodIn_r _ [21] (by decide +kernel) (by decide +kernel)
set_option maxRecDepth 20000 in
theorem gX12_recovery_X12_within : GoodIn wsX12_recovery (va_wsS RX12 172 yX12_within wsX12_within) := goodIn_app (goodIn_of _ (by decide +kernel)) ggX12_recovery_X12_within
set_option maxRecDepth 20000 in
theorem ggX12_recovery_X12_lays : GoodIn wsX12_recovery wsX12_lays := goodIn_r _ [25, 1, 50, 51, 52, 53, 54, 55, 56, 57, 58, 59, 60, 61, 62, 63, 64, 65, 66, 67, 68, 69, 70, 71, 72, 73, 74, 75, 76, 77, 78, 79, 80, 81, 82, 83, 84, 85, 86, 87, 88, 89, 90, 91, 92, 93, 94, 95, 96, 97, 98, 99, 100] (by decide +kernel) (by decide +kernel)
set_option maxRecDepth 20000 in
theorem gX12_recovery_X12_lays : GoodIn wsX12_recovery (wsV RX12 134 RX12 yX12_lays wsX12_lays) := goodIn_app (goodIn_of _ (by decide +kernel)) ggX12_recovery_X12_lays
set_option maxRecDepth 20000 in
theorem ggX12_recovery_X12_laysEnd : GoodIn wsX12_recovery wsX12_laysEnd := goodIn_r _ [29, 3, 4, 30, 31, 32, 9, 33, 34, 35, 36, 37, 1, 22, 23, 24, 25, 38, 39, 40, 41, 42, 43, 44, 45, 50, 51, 52, 53, 54, 55, 56, 57, 58, 59, 60, 61, 62, 63, 64, 65, 66, 67, 68, 69, 70, 71, 72, 73, 74, 75, 76, 77, 78, 79, 80, 81, 82, 83, 84, 85, 86, 87, 88, 89, 90, 91, 92, 93, 94, 95, 96, 97, 98, 99, 100] (by decide +kernel) (by decide +kernel)
set_option maxRecDepth 20000 in
theorem gX12_recovery_X12_laysEnd : GoodIn wsX12_recovery (wsV RX12 150 RX12 yX12_laysEnd wsX12_laysEnd) := goodIn_app (goodIn_of _ (by decide +kernel)) ggX12_recovery_X12_laysEnd
set_option maxRecDepth 20000 in
theorem ggX12_recovery_X12_recovers : GoodIn wsX12_recovery wsX12_recovers := goodIn_r _ [49, 11, 12, 9, 13, 14, 15, 16, 17, 18, 19, 20, 21, 50, 51, 52, 53, 54, 55, 56, 57, 58, 59, 60, 61, 62, 63, 64, 65, 66, 67, 68, 69, 70, 71, 72, 73, 74, 75, 76, 77, 78, 79, 80, 81, 82, 83, 84, 85, 86, 87, 88, 89, 90, 91, 92, 93, 94, 95, 96, 97, 98, 99, 100] (by decide +kernel) (by decide +kernel)
set_option maxRecDepth 20000 in
theorem gX12_recovery_X12_recovers : GoodIn wsX12_recovery (wsV RX12 178 RX12 yX12_recovers wsX12_recovers) := goodIn_app (goodIn_of _ (by decide +kernel)) ggX12_recovery_X12_recovers
theorem dX12_recovery_0 : decode cX12_recovery 0 = .ok (.aload_n 0, 1) := by decide +kernel
theorem dX12_recovery_1 : decode cX12_recovery 1 = .ok (.getfield 10, 3) := by decide +kernel
theorem dX12_recovery_4 : decode cX12_recovery 4 = .ok (.iload_n 1, 1) := by decide +kernel
theorem dX12_recovery_5 : decode cX12_recovery 5 = .ok (.sipush 781, 3) := by decide +kernel
theorem dX12_recovery_8 : decode cX12_recovery 8 = .ok (.iadd, 1) := by decide +kernel
theorem dX12_recovery_9 : decode cX12_recovery 9 = .ok (.dup2, 1) := by decide +kernel
theorem dX12_recovery_10 : decode cX12_recovery 10 = .ok (.iaload, 1) := by decide +kernel
theorem dX12_recovery_11 : decode cX12_recovery 11 = .ok (.iconst 1, 1) := by decide +kernel
theorem dX12_recovery_12 : decode cX12_recovery 12 = .ok (.iadd, 1) := by decide +kernel
theorem dX12_recovery_13 : decode cX12_recovery 13 = .ok (.iastore, 1) := by decide +kernel
theorem dX12_recovery_14 : decode cX12_recovery 14 = .ok (.aload_n 0, 1) := by decide +kernel
theorem dX12_recovery_15 : decode cX12_recovery 15 = .ok (.getfield 10, 3) := by decide +kernel
theorem dX12_recovery_18 : decode cX12_recovery 18 = .ok (.iload_n 1, 1) := by decide +kernel
theorem dX12_recovery_19 : decode cX12_recovery 19 = .ok (.sipush 772, 3) := by decide +kernel
theorem dX12_recovery_22 : decode cX12_recovery 22 = .ok (.iadd, 1) := by decide +kernel
theorem dX12_recovery_23 : decode cX12_recovery 23 = .ok (.iconst 0, 1) := by decide +kernel
theorem dX12_recovery_24 : decode cX12_recovery 24 = .ok (.iastore, 1) := by decide +kernel
theorem dX12_recovery_25 : decode cX12_recovery 25 = .ok (.aload_n 0, 1) := by decide +kernel
theorem dX12_recovery_26 : decode cX12_recovery 26 = .ok (.iload_n 1, 1) := by decide +kernel
theorem dX12_recovery_27 : decode cX12_recovery 27 = .ok (.invokevirtual 175, 3) := by decide +kernel
theorem dX12_recovery_30 : decode cX12_recovery 30 = .ok (.aload_n 0, 1) := by decide +kernel
theorem dX12_recovery_31 : decode cX12_recovery 31 = .ok (.getfield 39, 3) := by decide +kernel
theorem dX12_recovery_34 : decode cX12_recovery 34 = .ok (.invokestatic 166, 3) := by decide +kernel
theorem dX12_recovery_37 : decode cX12_recovery 37 = .ok (.istore_n 2, 1) := by decide +kernel
theorem dX12_recovery_38 : decode cX12_recovery 38 = .ok (.iload_n 2, 1) := by decide +kernel
theorem dX12_recovery_39 : decode cX12_recovery 39 = .ok (.ifCond .ne 4, 3) := by decide +kernel
theorem dX12_recovery_42 : decode cX12_recovery 42 = .ok (.return_, 1) := by decide +kernel
theorem dX12_recovery_43 : decode cX12_recovery 43 = .ok (.aload_n 0, 1) := by decide +kernel
theorem dX12_recovery_44 : decode cX12_recovery 44 = .ok (.iconst 0, 1) := by decide +kernel
theorem dX12_recovery_45 : decode cX12_recovery 45 = .ok (.putfield 73, 3) := by decide +kernel
theorem dX12_recovery_48 : decode cX12_recovery 48 = .ok (.iconst 0, 1) := by decide +kernel
theorem dX12_recovery_49 : decode cX12_recovery 49 = .ok (.istore_n 3, 1) := by decide +kernel
theorem dX12_recovery_50 : decode cX12_recovery 50 = .ok (.iload_n 3, 1) := by decide +kernel
theorem dX12_recovery_51 : decode cX12_recovery 51 = .ok (.iload_n 2, 1) := by decide +kernel
theorem dX12_recovery_52 : decode cX12_recovery 52 = .ok (.if_icmp .ge 81, 3) := by decide +kernel
theorem dX12_recovery_55 : decode cX12_recovery 55 = .ok (.aload_n 0, 1) := by decide +kernel
theorem dX12_recovery_56 : decode cX12_recovery 56 = .ok (.iload_n 2, 1) := by decide +kernel
theorem dX12_recovery_57 : decode cX12_recovery 57 = .ok (.iload_n 3, 1) := by decide +kernel
theorem dX12_recovery_58 : decode cX12_recovery 58 = .ok (.invokevirtual 169, 3) := by decide +kernel
theorem dX12_recovery_61 : decode cX12_recovery 61 = .ok (.istore 4, 2) := by decide +kernel
theorem dX12_recovery_63 : decode cX12_recovery 63 = .ok (.aload_n 0, 1) := by decide +kernel
theorem dX12_recovery_64 : decode cX12_recovery 64 = .ok (.getfield 39, 3) := by decide +kernel
theorem dX12_recovery_67 : decode cX12_recovery 67 = .ok (.iload 4, 2) := by decide +kernel
theorem dX12_recovery_69 : decode cX12_recovery 69 = .ok (.iaload, 1) := by decide +kernel
theorem dX12_recovery_70 : decode cX12_recovery 70 = .ok (.bipush 20, 2) := by decide +kernel
theorem dX12_recovery_72 : decode cX12_recovery 72 = .ok (.bipush 63, 2) := by decide +kernel
theorem dX12_recovery_74 : decode cX12_recovery 74 = .ok (.invokestatic 172, 3) := by decide +kernel
theorem dX12_recovery_77 : decode cX12_recovery 77 = .ok (.ifCond .ne 6, 3) := by decide +kernel
theorem dX12_recovery_80 : decode cX12_recovery 80 = .ok (.goto 47, 3) := by decide +kernel
theorem dX12_recovery_83 : decode cX12_recovery 83 = .ok (.aload_n 0, 1) := by decide +kernel
theorem dX12_recovery_84 : decode cX12_recovery 84 = .ok (.getfield 33, 3) := by decide +kernel
theorem dX12_recovery_87 : decode cX12_recovery 87 = .ok (.aload_n 0, 1) := by decide +kernel
theorem dX12_recovery_88 : decode cX12_recovery 88 = .ok (.getfield 73, 3) := by decide +kernel
theorem dX12_recovery_91 : decode cX12_recovery 91 = .ok (.aload_n 0, 1) := by decide +kernel
theorem dX12_recovery_92 : decode cX12_recovery 92 = .ok (.getfield 39, 3) := by decide +kernel
theorem dX12_recovery_95 : decode cX12_recovery 95 = .ok (.iload 4, 2) := by decide +kernel
theorem dX12_recovery_97 : decode cX12_recovery 97 = .ok (.iaload, 1) := by decide +kernel
theorem dX12_recovery_98 : decode cX12_recovery 98 = .ok (.iastore, 1) := by decide +kernel
theorem dX12_recovery_99 : decode cX12_recovery 99 = .ok (.aload_n 0, 1) := by decide +kernel
theorem dX12_recovery_100 : decode cX12_recovery 100 = .ok (.getfield 36, 3) := by decide +kernel
theorem dX12_recovery_103 : decode cX12_recovery 103 = .ok (.aload_n 0, 1) := by decide +kernel
theorem dX12_recovery_104 : decode cX12_recovery 104 = .ok (.getfield 73, 3) := by decide +kernel
theorem dX12_recovery_107 : decode cX12_recovery 107 = .ok (.aload_n 0, 1) := by decide +kernel
theorem dX12_recovery_108 : decode cX12_recovery 108 = .ok (.getfield 39, 3) := by decide +kernel
theorem dX12_recovery_111 : decode cX12_recovery 111 = .ok (.iload 4, 2) := by decide +kernel
theorem dX12_recovery_113 : decode cX12_recovery 113 = .ok (.iconst 1, 1) := by decide +kernel
theorem dX12_recovery_114 : decode cX12_recovery 114 = .ok (.iadd, 1) := by decide +kernel
theorem dX12_recovery_115 : decode cX12_recovery 115 = .ok (.iaload, 1) := by decide +kernel
theorem dX12_recovery_116 : decode cX12_recovery 116 = .ok (.iastore, 1) := by decide +kernel
theorem dX12_recovery_117 : decode cX12_recovery 117 = .ok (.aload_n 0, 1) := by decide +kernel
theorem dX12_recovery_118 : decode cX12_recovery 118 = .ok (.dup, 1) := by decide +kernel
theorem dX12_recovery_119 : decode cX12_recovery 119 = .ok (.getfield 73, 3) := by decide +kernel
theorem dX12_recovery_122 : decode cX12_recovery 122 = .ok (.iconst 1, 1) := by decide +kernel
theorem dX12_recovery_123 : decode cX12_recovery 123 = .ok (.iadd, 1) := by decide +kernel
theorem dX12_recovery_124 : decode cX12_recovery 124 = .ok (.putfield 73, 3) := by decide +kernel
theorem dX12_recovery_127 : decode cX12_recovery 127 = .ok (.iinc 3 1, 3) := by decide +kernel
theorem dX12_recovery_130 : decode cX12_recovery 130 = .ok (.goto (-80), 3) := by decide +kernel
theorem dX12_recovery_133 : decode cX12_recovery 133 = .ok (.aload_n 0, 1) := by decide +kernel
theorem dX12_recovery_134 : decode cX12_recovery 134 = .ok (.getfield 10, 3) := by decide +kernel
theorem dX12_recovery_137 : decode cX12_recovery 137 = .ok (.iload_n 1, 1) := by decide +kernel
theorem dX12_recovery_138 : decode cX12_recovery 138 = .ok (.sipush 774, 3) := by decide +kernel
theorem dX12_recovery_141 : decode cX12_recovery 141 = .ok (.iadd, 1) := by decide +kernel
theorem dX12_recovery_142 : decode cX12_recovery 142 = .ok (.iconst 0, 1) := by decide +kernel
theorem dX12_recovery_143 : decode cX12_recovery 143 = .ok (.iastore, 1) := by decide +kernel
theorem dX12_recovery_144 : decode cX12_recovery 144 = .ok (.aload_n 0, 1) := by decide +kernel
theorem dX12_recovery_145 : decode cX12_recovery 145 = .ok (.getfield 10, 3) := by decide +kernel
theorem dX12_recovery_148 : decode cX12_recovery 148 = .ok (.iload_n 1, 1) := by decide +kernel
theorem dX12_recovery_149 : decode cX12_recovery 149 = .ok (.sipush 775, 3) := by decide +kernel
theorem dX12_recovery_152 : decode cX12_recovery 152 = .ok (.iadd, 1) := by decide +kernel
theorem dX12_recovery_153 : decode cX12_recovery 153 = .ok (.iconst 0, 1) := by decide +kernel
theorem dX12_recovery_154 : decode cX12_recovery 154 = .ok (.iastore, 1) := by decide +kernel
theorem dX12_recovery_155 : decode cX12_recovery 155 = .ok (.iconst 0, 1) := by decide +kernel
theorem dX12_recovery_156 : decode cX12_recovery 156 = .ok (.istore_n 3, 1) := by decide +kernel
theorem dX12_recovery_157 : decode cX12_recovery 157 = .ok (.iload_n 3, 1) := by decide +kernel
theorem dX12_recovery_158 : decode cX12_recovery 158 = .ok (.aload_n 0, 1) := by decide +kernel
theorem dX12_recovery_159 : decode cX12_recovery 159 = .ok (.getfield 73, 3) := by decide +kernel
theorem dX12_recovery_162 : decode cX12_recovery 162 = .ok (.if_icmp .ge 27, 3) := by decide +kernel
theorem dX12_recovery_165 : decode cX12_recovery 165 = .ok (.aload_n 0, 1) := by decide +kernel
theorem dX12_recovery_166 : decode cX12_recovery 166 = .ok (.iload_n 1, 1) := by decide +kernel
theorem dX12_recovery_167 : decode cX12_recovery 167 = .ok (.iconst 0, 1) := by decide +kernel
theorem dX12_recovery_168 : decode cX12_recovery 168 = .ok (.aload_n 0, 1) := by decide +kernel
theorem dX12_recovery_169 : decode cX12_recovery 169 = .ok (.getfield 33, 3) := by decide +kernel
theorem dX12_recovery_172 : decode cX12_recovery 172 = .ok (.iload_n 3, 1) := by decide +kernel
theorem dX12_recovery_173 : decode cX12_recovery 173 = .ok (.iaload, 1) := by decide +kernel
theorem dX12_recovery_174 : decode cX12_recovery 174 = .ok (.aload_n 0, 1) := by decide +kernel
theorem dX12_recovery_175 : decode cX12_recovery 175 = .ok (.getfield 36, 3) := by decide +kernel
theorem dX12_recovery_178 : decode cX12_recovery 178 = .ok (.iload_n 3, 1) := by decide +kernel
theorem dX12_recovery_179 : decode cX12_recovery 179 = .ok (.iaload, 1) := by decide +kernel
theorem dX12_recovery_180 : decode cX12_recovery 180 = .ok (.invokevirtual 134, 3) := by decide +kernel
theorem dX12_recovery_183 : decode cX12_recovery 183 = .ok (.iinc 3 1, 3) := by decide +kernel
theorem dX12_recovery_186 : decode cX12_recovery 186 = .ok (.goto (-29), 3) := by decide +kernel
theorem dX12_recovery_189 : decode cX12_recovery 189 = .ok (.aload_n 0, 1) := by decide +kernel
theorem dX12_recovery_190 : decode cX12_recovery 190 = .ok (.iload_n 1, 1) := by decide +kernel
theorem dX12_recovery_191 : decode cX12_recovery 191 = .ok (.invokevirtual 150, 3) := by decide +kernel
theorem dX12_recovery_194 : decode cX12_recovery 194 = .ok (.aload_n 0, 1) := by decide +kernel
theorem dX12_recovery_195 : decode cX12_recovery 195 = .ok (.aload_n 0, 1) := by decide +kernel
theorem dX12_recovery_196 : decode cX12_recovery 196 = .ok (.getfield 39, 3) := by decide +kernel
theorem dX12_recovery_199 : decode cX12_recovery 199 = .ok (.invokevirtual 178, 3) := by decide +kernel
theorem dX12_recovery_202 : decode cX12_recovery 202 = .ok (.iconst 0, 1) := by decide +kernel
theorem dX12_recovery_203 : decode cX12_recovery 203 = .ok (.istore_n 3, 1) := by decide +kernel
theorem dX12_recovery_204 : decode cX12_recovery 204 = .ok (.iload_n 3, 1) := by decide +kernel
theorem dX12_recovery_205 : decode cX12_recovery 205 = .ok (.bipush 44, 2) := by decide +kernel
theorem dX12_recovery_207 : decode cX12_recovery 207 = .ok (.if_icmp .ge 30, 3) := by decide +kernel
theorem dX12_recovery_210 : decode cX12_recovery 210 = .ok (.aload_n 0, 1) := by decide +kernel
theorem dX12_recovery_211 : decode cX12_recovery 211 = .ok (.getfield 10, 3) := by decide +kernel
theorem dX12_recovery_214 : decode cX12_recovery 214 = .ok (.iload_n 1, 1) := by decide +kernel
theorem dX12_recovery_215 : decode cX12_recovery 215 = .ok (.sipush 528, 3) := by decide +kernel
theorem dX12_recovery_218 : decode cX12_recovery 218 = .ok (.iadd, 1) := by decide +kernel
theorem dX12_recovery_219 : decode cX12_recovery 219 = .ok (.iload_n 3, 1) := by decide +kernel
theorem dX12_recovery_220 : decode cX12_recovery 220 = .ok (.iadd, 1) := by decide +kernel
theorem dX12_recovery_221 : decode cX12_recovery 221 = .ok (.aload_n 0, 1) := by decide +kernel
theorem dX12_recovery_222 : decode cX12_recovery 222 = .ok (.getfield 39, 3) := by decide +kernel
theorem dX12_recovery_225 : decode cX12_recovery 225 = .ok (.bipush 20, 2) := by decide +kernel
theorem dX12_recovery_227 : decode cX12_recovery 227 = .ok (.iload_n 3, 1) := by decide +kernel
theorem dX12_recovery_228 : decode cX12_recovery 228 = .ok (.iadd, 1) := by decide +kernel
theorem dX12_recovery_229 : decode cX12_recovery 229 = .ok (.iaload, 1) := by decide +kernel
theorem dX12_recovery_230 : decode cX12_recovery 230 = .ok (.iastore, 1) := by decide +kernel
theorem dX12_recovery_231 : decode cX12_recovery 231 = .ok (.iinc 3 1, 3) := by decide +kernel
theorem dX12_recovery_234 : decode cX12_recovery 234 = .ok (.goto (-30), 3) := by decide +kernel
theorem dX12_recovery_237 : decode cX12_recovery 237 = .ok (.aload_n 0, 1) := by decide +kernel
theorem dX12_recovery_238 : decode cX12_recovery 238 = .ok (.getfield 10, 3) := by decide +kernel
theorem dX12_recovery_241 : decode cX12_recovery 241 = .ok (.iload_n 1, 1) := by decide +kernel
theorem dX12_recovery_242 : decode cX12_recovery 242 = .ok (.sipush 776, 3) := by decide +kernel
theorem dX12_recovery_245 : decode cX12_recovery 245 = .ok (.iadd, 1) := by decide +kernel
theorem dX12_recovery_246 : decode cX12_recovery 246 = .ok (.iconst 2, 1) := by decide +kernel
theorem dX12_recovery_247 : decode cX12_recovery 247 = .ok (.iastore, 1) := by decide +kernel
theorem dX12_recovery_248 : decode cX12_recovery 248 = .ok (.aload_n 0, 1) := by decide +kernel
theorem dX12_recovery_249 : decode cX12_recovery 249 = .ok (.getfield 10, 3) := by decide +kernel
theorem dX12_recovery_252 : decode cX12_recovery 252 = .ok (.iload_n 1, 1) := by decide +kernel
theorem dX12_recovery_253 : decode cX12_recovery 253 = .ok (.sipush 772, 3) := by decide +kernel
theorem dX12_recovery_256 : decode cX12_recovery 256 = .ok (.iadd, 1) := by decide +kernel
theorem dX12_recovery_257 : decode cX12_recovery 257 = .ok (.iconst 2, 1) := by decide +kernel
theorem dX12_recovery_258 : decode cX12_recovery 258 = .ok (.iastore, 1) := by decide +kernel
theorem dX12_recovery_259 : decode cX12_recovery 259 = .ok (.return_, 1) := by decide +kernel
theorem dX12_ordersOf_0 : decode cX12_ordersOf 0 = .ok (.lconst 1, 1) := by decide +kernel
theorem dX12_ordersOf_1 : decode cX12_ordersOf 1 = .ok (.lstore_n 2, 1) := by decide +kernel
theorem dX12_ordersOf_2 : decode cX12_ordersOf 2 = .ok (.iconst 0, 1) := by decide +kernel
theorem dX12_ordersOf_3 : decode cX12_ordersOf 3 = .ok (.istore 4, 2) := by decide +kernel
theorem dX12_ordersOf_5 : decode cX12_ordersOf 5 = .ok (.iload 4, 2) := by decide +kernel
theorem dX12_ordersOf_7 : decode cX12_ordersOf 7 = .ok (.bipush 16, 2) := by decide +kernel
theorem dX12_ordersOf_9 : decode cX12_ordersOf 9 = .ok (.if_icmp .ge 27, 3) := by decide +kernel
theorem dX12_ordersOf_12 : decode cX12_ordersOf 12 = .ok (.lload_n 2, 1) := by decide +kernel
theorem dX12_ordersOf_13 : decode cX12_ordersOf 13 = .ok (.aload_n 0, 1) := by decide +kernel
theorem dX12_ordersOf_14 : decode cX12_ordersOf 14 = .ok (.getfield 10, 3) := by decide +kernel
theorem dX12_ordersOf_17 : decode cX12_ordersOf 17 = .ok (.iload_n 1, 1) := by decide +kernel
theorem dX12_ordersOf_18 : decode cX12_ordersOf 18 = .ok (.bipush 64, 2) := by decide +kernel
theorem dX12_ordersOf_20 : decode cX12_ordersOf 20 = .ok (.iadd, 1) := by decide +kernel
theorem dX12_ordersOf_21 : decode cX12_ordersOf 21 = .ok (.iload 4, 2) := by decide +kernel
theorem dX12_ordersOf_23 : decode cX12_ordersOf 23 = .ok (.iadd, 1) := by decide +kernel
theorem dX12_ordersOf_24 : decode cX12_ordersOf 24 = .ok (.iaload, 1) := by decide +kernel
theorem dX12_ordersOf_25 : decode cX12_ordersOf 25 = .ok (.iconst 1, 1) := by decide +kernel
theorem dX12_ordersOf_26 : decode cX12_ordersOf 26 = .ok (.iadd, 1) := by decide +kernel
theorem dX12_ordersOf_27 : decode cX12_ordersOf 27 = .ok (.i2l, 1) := by decide +kernel
theorem dX12_ordersOf_28 : decode cX12_ordersOf 28 = .ok (.lmul, 1) := by decide +kernel
theorem dX12_ordersOf_29 : decode cX12_ordersOf 29 = .ok (.lstore_n 2, 1) := by decide +kernel
theorem dX12_ordersOf_30 : decode cX12_ordersOf 30 = .ok (.iinc 4 1, 3) := by decide +kernel
theorem dX12_ordersOf_33 : decode cX12_ordersOf 33 = .ok (.goto (-28), 3) := by decide +kernel
theorem dX12_ordersOf_36 : decode cX12_ordersOf 36 = .ok (.lload_n 2, 1) := by decide +kernel
theorem dX12_ordersOf_37 : decode cX12_ordersOf 37 = .ok (.lreturn, 1) := by decide +kernel
theorem dX12_firstOrder_0 : decode cX12_firstOrder 0 = .ok (.iconst 0, 1) := by decide +kernel
theorem dX12_firstOrder_1 : decode cX12_firstOrder 1 = .ok (.istore_n 1, 1) := by decide +kernel
theorem dX12_firstOrder_2 : decode cX12_firstOrder 2 = .ok (.iload_n 1, 1) := by decide +kernel
theorem dX12_firstOrder_3 : decode cX12_firstOrder 3 = .ok (.bipush 16, 2) := by decide +kernel
theorem dX12_firstOrder_5 : decode cX12_firstOrder 5 = .ok (.if_icmp .ge 16, 3) := by decide +kernel
theorem dX12_firstOrder_8 : decode cX12_firstOrder 8 = .ok (.aload_n 0, 1) := by decide +kernel
theorem dX12_firstOrder_9 : decode cX12_firstOrder 9 = .ok (.getfield 42, 3) := by decide +kernel
theorem dX12_firstOrder_12 : decode cX12_firstOrder 12 = .ok (.iload_n 1, 1) := by decide +kernel
theorem dX12_firstOrder_13 : decode cX12_firstOrder 13 = .ok (.iconst 0, 1) := by decide +kernel
theorem dX12_firstOrder_14 : decode cX12_firstOrder 14 = .ok (.iastore, 1) := by decide +kernel
theorem dX12_firstOrder_15 : decode cX12_firstOrder 15 = .ok (.iinc 1 1, 3) := by decide +kernel
theorem dX12_firstOrder_18 : decode cX12_firstOrder 18 = .ok (.goto (-16), 3) := by decide +kernel
theorem dX12_firstOrder_21 : decode cX12_firstOrder 21 = .ok (.return_, 1) := by decide +kernel
theorem dX12_nextOrder_0 : decode cX12_nextOrder 0 = .ok (.bipush 15, 2) := by decide +kernel
theorem dX12_nextOrder_2 : decode cX12_nextOrder 2 = .ok (.istore_n 2, 1) := by decide +kernel
theorem dX12_nextOrder_3 : decode cX12_nextOrder 3 = .ok (.iload_n 2, 1) := by decide +kernel
theorem dX12_nextOrder_4 : decode cX12_nextOrder 4 = .ok (.ifCond .lt 36, 3) := by decide +kernel
theorem dX12_nextOrder_7 : decode cX12_nextOrder 7 = .ok (.aload_n 0, 1) := by decide +kernel
theorem dX12_nextOrder_8 : decode cX12_nextOrder 8 = .ok (.getfield 42, 3) := by decide +kernel
theorem dX12_nextOrder_11 : decode cX12_nextOrder 11 = .ok (.iload_n 2, 1) := by decide +kernel
theorem dX12_nextOrder_12 : decode cX12_nextOrder 12 = .ok (.iaload, 1) := by decide +kernel
theorem dX12_nextOrder_13 : decode cX12_nextOrder 13 = .ok (.aload_n 0, 1) := by decide +kernel
theorem dX12_nextOrder_14 : decode cX12_nextOrder 14 = .ok (.getfield 10, 3) := by decide +kernel
theorem dX12_nextOrder_17 : decode cX12_nextOrder 17 = .ok (.iload_n 1, 1) := by decide +kernel
theorem dX12_nextOrder_18 : decode cX12_nextOrder 18 = .ok (.bipush 64, 2) := by decide +kernel
theorem dX12_nextOrder_20 : decode cX12_nextOrder 20 = .ok (.iadd, 1) := by decide +kernel
theorem dX12_nextOrder_21 : decode cX12_nextOrder 21 = .ok (.iload_n 2, 1) := by decide +kernel
theorem dX12_nextOrder_22 : decode cX12_nextOrder 22 = .ok (.iadd, 1) := by decide +kernel
theorem dX12_nextOrder_23 : decode cX12_nextOrder 23 = .ok (.iaload, 1) := by decide +kernel
theorem dX12_nextOrder_24 : decode cX12_nextOrder 24 = .ok (.if_icmp .ne 16, 3) := by decide +kernel
theorem dX12_nextOrder_27 : decode cX12_nextOrder 27 = .ok (.aload_n 0, 1) := by decide +kernel
theorem dX12_nextOrder_28 : decode cX12_nextOrder 28 = .ok (.getfield 42, 3) := by decide +kernel
theorem dX12_nextOrder_31 : decode cX12_nextOrder 31 = .ok (.iload_n 2, 1) := by decide +kernel
theorem dX12_nextOrder_32 : decode cX12_nextOrder 32 = .ok (.iconst 0, 1) := by decide +kernel
theorem dX12_nextOrder_33 : decode cX12_nextOrder 33 = .ok (.iastore, 1) := by decide +kernel
theorem dX12_nextOrder_34 : decode cX12_nextOrder 34 = .ok (.iinc 2 (-1), 3) := by decide +kernel
theorem dX12_nextOrder_37 : decode cX12_nextOrder 37 = .ok (.goto (-34), 3) := by decide +kernel
theorem dX12_nextOrder_40 : decode cX12_nextOrder 40 = .ok (.iload_n 2, 1) := by decide +kernel
theorem dX12_nextOrder_41 : decode cX12_nextOrder 41 = .ok (.ifCond .lt 13, 3) := by decide +kernel
theorem dX12_nextOrder_44 : decode cX12_nextOrder 44 = .ok (.aload_n 0, 1) := by decide +kernel
theorem dX12_nextOrder_45 : decode cX12_nextOrder 45 = .ok (.getfield 42, 3) := by decide +kernel
theorem dX12_nextOrder_48 : decode cX12_nextOrder 48 = .ok (.iload_n 2, 1) := by decide +kernel
theorem dX12_nextOrder_49 : decode cX12_nextOrder 49 = .ok (.dup2, 1) := by decide +kernel
theorem dX12_nextOrder_50 : decode cX12_nextOrder 50 = .ok (.iaload, 1) := by decide +kernel
theorem dX12_nextOrder_51 : decode cX12_nextOrder 51 = .ok (.iconst 1, 1) := by decide +kernel
theorem dX12_nextOrder_52 : decode cX12_nextOrder 52 = .ok (.iadd, 1) := by decide +kernel
theorem dX12_nextOrder_53 : decode cX12_nextOrder 53 = .ok (.iastore, 1) := by decide +kernel
theorem dX12_nextOrder_54 : decode cX12_nextOrder 54 = .ok (.return_, 1) := by decide +kernel
theorem dX12_laysOrder_0 : decode cX12_laysOrder 0 = .ok (.iload_n 2, 1) := by decide +kernel
theorem dX12_laysOrder_1 : decode cX12_laysOrder 1 = .ok (.istore_n 3, 1) := by decide +kernel
theorem dX12_laysOrder_2 : decode cX12_laysOrder 2 = .ok (.bipush 15, 2) := by decide +kernel
theorem dX12_laysOrder_4 : decode cX12_laysOrder 4 = .ok (.istore 4, 2) := by decide +kernel
theorem dX12_laysOrder_6 : decode cX12_laysOrder 6 = .ok (.iload 4, 2) := by decide +kernel
theorem dX12_laysOrder_8 : decode cX12_laysOrder 8 = .ok (.ifCond .lt 41, 3) := by decide +kernel
theorem dX12_laysOrder_11 : decode cX12_laysOrder 11 = .ok (.aload_n 0, 1) := by decide +kernel
theorem dX12_laysOrder_12 : decode cX12_laysOrder 12 = .ok (.getfield 10, 3) := by decide +kernel
theorem dX12_laysOrder_15 : decode cX12_laysOrder 15 = .ok (.iload_n 1, 1) := by decide +kernel
theorem dX12_laysOrder_16 : decode cX12_laysOrder 16 = .ok (.bipush 64, 2) := by decide +kernel
theorem dX12_laysOrder_18 : decode cX12_laysOrder 18 = .ok (.iadd, 1) := by decide +kernel
theorem dX12_laysOrder_19 : decode cX12_laysOrder 19 = .ok (.iload 4, 2) := by decide +kernel
theorem dX12_laysOrder_21 : decode cX12_laysOrder 21 = .ok (.iadd, 1) := by decide +kernel
theorem dX12_laysOrder_22 : decode cX12_laysOrder 22 = .ok (.iaload, 1) := by decide +kernel
theorem dX12_laysOrder_23 : decode cX12_laysOrder 23 = .ok (.iconst 1, 1) := by decide +kernel
theorem dX12_laysOrder_24 : decode cX12_laysOrder 24 = .ok (.iadd, 1) := by decide +kernel
theorem dX12_laysOrder_25 : decode cX12_laysOrder 25 = .ok (.istore 5, 2) := by decide +kernel
theorem dX12_laysOrder_27 : decode cX12_laysOrder 27 = .ok (.aload_n 0, 1) := by decide +kernel
theorem dX12_laysOrder_28 : decode cX12_laysOrder 28 = .ok (.getfield 42, 3) := by decide +kernel
theorem dX12_laysOrder_31 : decode cX12_laysOrder 31 = .ok (.iload 4, 2) := by decide +kernel
theorem dX12_laysOrder_33 : decode cX12_laysOrder 33 = .ok (.iload_n 3, 1) := by decide +kernel
theorem dX12_laysOrder_34 : decode cX12_laysOrder 34 = .ok (.iload 5, 2) := by decide +kernel
theorem dX12_laysOrder_36 : decode cX12_laysOrder 36 = .ok (.irem, 1) := by decide +kernel
theorem dX12_laysOrder_37 : decode cX12_laysOrder 37 = .ok (.iastore, 1) := by decide +kernel
theorem dX12_laysOrder_38 : decode cX12_laysOrder 38 = .ok (.iload_n 3, 1) := by decide +kernel
theorem dX12_laysOrder_39 : decode cX12_laysOrder 39 = .ok (.iload 5, 2) := by decide +kernel
theorem dX12_laysOrder_41 : decode cX12_laysOrder 41 = .ok (.idiv, 1) := by decide +kernel
theorem dX12_laysOrder_42 : decode cX12_laysOrder 42 = .ok (.istore_n 3, 1) := by decide +kernel
theorem dX12_laysOrder_43 : decode cX12_laysOrder 43 = .ok (.iinc 4 (-1), 3) := by decide +kernel
theorem dX12_laysOrder_46 : decode cX12_laysOrder 46 = .ok (.goto (-40), 3) := by decide +kernel
theorem dX12_laysOrder_49 : decode cX12_laysOrder 49 = .ok (.return_, 1) := by decide +kernel
theorem dX12_laysImage_0 : decode cX12_laysImage 0 = .ok (.iconst 0, 1) := by decide +kernel
theorem dX12_laysImage_1 : decode cX12_laysImage 1 = .ok (.istore_n 2, 1) := by decide +kernel
theorem dX12_laysImage_2 : decode cX12_laysImage 2 = .ok (.iload_n 2, 1) := by decide +kernel
theorem dX12_laysImage_3 : decode cX12_laysImage 3 = .ok (.bipush 64, 2) := by decide +kernel
theorem dX12_laysImage_5 : decode cX12_laysImage 5 = .ok (.if_icmp .ge 23, 3) := by decide +kernel
theorem dX12_laysImage_8 : decode cX12_laysImage 8 = .ok (.aload_n 0, 1) := by decide +kernel
theorem dX12_laysImage_9 : decode cX12_laysImage 9 = .ok (.getfield 45, 3) := by decide +kernel
theorem dX12_laysImage_12 : decode cX12_laysImage 12 = .ok (.iload_n 2, 1) := by decide +kernel
theorem dX12_laysImage_13 : decode cX12_laysImage 13 = .ok (.aload_n 0, 1) := by decide +kernel
theorem dX12_laysImage_14 : decode cX12_laysImage 14 = .ok (.getfield 10, 3) := by decide +kernel
theorem dX12_laysImage_17 : decode cX12_laysImage 17 = .ok (.iload_n 1, 1) := by decide +kernel
theorem dX12_laysImage_18 : decode cX12_laysImage 18 = .ok (.iload_n 2, 1) := by decide +kernel
theorem dX12_laysImage_19 : decode cX12_laysImage 19 = .ok (.iadd, 1) := by decide +kernel
theorem dX12_laysImage_20 : decode cX12_laysImage 20 = .ok (.iaload, 1) := by decide +kernel
theorem dX12_laysImage_21 : decode cX12_laysImage 21 = .ok (.iastore, 1) := by decide +kernel
theorem dX12_laysImage_22 : decode cX12_laysImage 22 = .ok (.iinc 2 1, 3) := by decide +kernel
theorem dX12_laysImage_25 : decode cX12_laysImage 25 = .ok (.goto (-23), 3) := by decide +kernel
theorem dX12_laysImage_28 : decode cX12_laysImage 28 = .ok (.iconst 0, 1) := by decide +kernel
theorem dX12_laysImage_29 : decode cX12_laysImage 29 = .ok (.istore_n 2, 1) := by decide +kernel
theorem dX12_laysImage_30 : decode cX12_laysImage 30 = .ok (.iload_n 2, 1) := by decide +kernel
theorem dX12_laysImage_31 : decode cX12_laysImage 31 = .ok (.bipush 16, 2) := by decide +kernel
theorem dX12_laysImage_33 : decode cX12_laysImage 33 = .ok (.if_icmp .ge 68, 3) := by decide +kernel
theorem dX12_laysImage_36 : decode cX12_laysImage 36 = .ok (.iload_n 1, 1) := by decide +kernel
theorem dX12_laysImage_37 : decode cX12_laysImage 37 = .ok (.bipush 96, 2) := by decide +kernel
theorem dX12_laysImage_39 : decode cX12_laysImage 39 = .ok (.iadd, 1) := by decide +kernel
theorem dX12_laysImage_40 : decode cX12_laysImage 40 = .ok (.bipush 12, 2) := by decide +kernel
theorem dX12_laysImage_42 : decode cX12_laysImage 42 = .ok (.iload_n 2, 1) := by decide +kernel
theorem dX12_laysImage_43 : decode cX12_laysImage 43 = .ok (.imul, 1) := by decide +kernel
theorem dX12_laysImage_44 : decode cX12_laysImage 44 = .ok (.iadd, 1) := by decide +kernel
theorem dX12_laysImage_45 : decode cX12_laysImage 45 = .ok (.istore_n 3, 1) := by decide +kernel
theorem dX12_laysImage_46 : decode cX12_laysImage 46 = .ok (.iconst 0, 1) := by decide +kernel
theorem dX12_laysImage_47 : decode cX12_laysImage 47 = .ok (.istore 4, 2) := by decide +kernel
theorem dX12_laysImage_49 : decode cX12_laysImage 49 = .ok (.iload 4, 2) := by decide +kernel
theorem dX12_laysImage_51 : decode cX12_laysImage 51 = .ok (.aload_n 0, 1) := by decide +kernel
theorem dX12_laysImage_52 : decode cX12_laysImage 52 = .ok (.getfield 42, 3) := by decide +kernel
theorem dX12_laysImage_55 : decode cX12_laysImage 55 = .ok (.iload_n 2, 1) := by decide +kernel
theorem dX12_laysImage_56 : decode cX12_laysImage 56 = .ok (.iaload, 1) := by decide +kernel
theorem dX12_laysImage_57 : decode cX12_laysImage 57 = .ok (.if_icmp .ge 38, 3) := by decide +kernel
theorem dX12_laysImage_60 : decode cX12_laysImage 60 = .ok (.aload_n 0, 1) := by decide +kernel
theorem dX12_laysImage_61 : decode cX12_laysImage 61 = .ok (.getfield 45, 3) := by decide +kernel
theorem dX12_laysImage_64 : decode cX12_laysImage 64 = .ok (.aload_n 0, 1) := by decide +kernel
theorem dX12_laysImage_65 : decode cX12_laysImage 65 = .ok (.getfield 10, 3) := by decide +kernel
theorem dX12_laysImage_68 : decode cX12_laysImage 68 = .ok (.iload_n 3, 1) := by decide +kernel
theorem dX12_laysImage_69 : decode cX12_laysImage 69 = .ok (.iconst 2, 1) := by decide +kernel
theorem dX12_laysImage_70 : decode cX12_laysImage 70 = .ok (.iload 4, 2) := by decide +kernel
theorem dX12_laysImage_72 : decode cX12_laysImage 72 = .ok (.imul, 1) := by decide +kernel
theorem dX12_laysImage_73 : decode cX12_laysImage 73 = .ok (.iadd, 1) := by decide +kernel
theorem dX12_laysImage_74 : decode cX12_laysImage 74 = .ok (.iaload, 1) := by decide +kernel
theorem dX12_laysImage_75 : decode cX12_laysImage 75 = .ok (.aload_n 0, 1) := by decide +kernel
theorem dX12_laysImage_76 : decode cX12_laysImage 76 = .ok (.getfield 10, 3) := by decide +kernel
theorem dX12_laysImage_79 : decode cX12_laysImage 79 = .ok (.iload_n 3, 1) := by decide +kernel
theorem dX12_laysImage_80 : decode cX12_laysImage 80 = .ok (.iconst 2, 1) := by decide +kernel
theorem dX12_laysImage_81 : decode cX12_laysImage 81 = .ok (.iload 4, 2) := by decide +kernel
theorem dX12_laysImage_83 : decode cX12_laysImage 83 = .ok (.imul, 1) := by decide +kernel
theorem dX12_laysImage_84 : decode cX12_laysImage 84 = .ok (.iadd, 1) := by decide +kernel
theorem dX12_laysImage_85 : decode cX12_laysImage 85 = .ok (.iconst 1, 1) := by decide +kernel
theorem dX12_laysImage_86 : decode cX12_laysImage 86 = .ok (.iadd, 1) := by decide +kernel
theorem dX12_laysImage_87 : decode cX12_laysImage 87 = .ok (.iaload, 1) := by decide +kernel
theorem dX12_laysImage_88 : decode cX12_laysImage 88 = .ok (.iastore, 1) := by decide +kernel
theorem dX12_laysImage_89 : decode cX12_laysImage 89 = .ok (.iinc 4 1, 3) := by decide +kernel
theorem dX12_laysImage_92 : decode cX12_laysImage 92 = .ok (.goto (-43), 3) := by decide +kernel
theorem dX12_laysImage_95 : decode cX12_laysImage 95 = .ok (.iinc 2 1, 3) := by decide +kernel
theorem dX12_laysImage_98 : decode cX12_laysImage 98 = .ok (.goto (-68), 3) := by decide +kernel
theorem dX12_laysImage_101 : decode cX12_laysImage 101 = .ok (.return_, 1) := by decide +kernel
set_option maxRecDepth 20000 in
theorem ggX12_laysWell_X12_laysMemory : GoodIn wsX12_laysWell wsX12_laysMemory := goodIn_r _ [9, 3, 1, 29, 30, 31, 32, 33, 34, 35, 36, 37, 38, 39, 40, 41, 42, 43, 44, 45, 46, 47, 48, 49, 50, 51, 52, 53, 54, 55, 56, 57, 58, 59, 60, 61, 62, 63, 64, 65, 66, 67, 68, 69, 70, 71, 72, 73, 74, 75, 76, 77, 78, 79] (by decide +kernel) (by decide +kernel)
set_option maxRecDepth 20000 in
theorem gX12_laysWell_X12_laysMemory : GoodIn wsX12_laysWell (wsV RX12 175 RX12 yX12_laysMemory wsX12_laysMemory) := goodIn_app (goodIn_of _ (by decide +kernel)) ggX12_laysWell_X12_laysMemory
set_option maxRecDepth 20000 in
theorem ggX12_laysWell_X12_recovers : GoodIn wsX12_laysWell wsX12_recovers := goodIn_r _ [13, 14, 15, 8, 16, 17, 18, 19, 20, 21, 22, 23, 24, 29, 30, 31, 32, 33, 34, 35, 36, 37, 38, 39, 40, 41, 42, 43, 44, 45, 46, 47, 48, 49, 50, 51, 52, 53, 54, 55, 56, 57, 58, 59, 60, 61, 62, 63, 64, 65, 66, 67, 68, 69, 70, 71, 72, 73, 74, 75, 76, 77, 78, 79] (by decide +kernel) (by decide +kernel)
set_option maxRecDepth 20000 in
theorem gX12_laysWell_X12_recovers : GoodIn wsX12_laysWell (wsV RX12 178 RX12 yX12_recovers wsX12_recovers) := goodIn_app (goodIn_of _ (by decide +kernel)) ggX12_laysWell_X12_recovers
set_option maxRecDepth 20000 in
theorem ggX12_laysWell_X12_wordOf : GoodIn wsX12_laysWell wsX12_wordOf := goodIn_r _ [28, 1, 29, 30, 31, 32, 33, 34, 35, 36, 37, 38, 39, 40, 41, 42, 43, 44, 45, 46, 47, 48, 49, 50, 51, 52, 53, 54, 55, 56, 57, 58, 59, 60, 61, 62, 63, 64, 65, 66, 67, 68, 69, 70, 71, 72, 73, 74, 75, 76, 77, 78, 79] (by decide +kernel) (by decide +kernel)
set_option maxRecDepth 20000 in
theorem gX12_laysWell_X12_wordOf : GoodIn wsX12_laysWell (wsV RX12 118 RX12 yX12_wordOf wsX12_wordOf) := goodIn_app (goodIn_of _ (by decide +kernel)) ggX12_laysWell_X12_wordOf
theorem dX12_laysWell_0 : decode cX12_laysWell 0 = .ok (.aload_n 0, 1) := by decide +kernel
theorem dX12_laysWell_1 : decode cX12_laysWell 1 = .ok (.aload_n 0, 1) := by decide +kernel
theorem dX12_laysWell_2 : decode cX12_laysWell 2 = .ok (.getfield 10, 3) := by decide +kernel
theorem dX12_laysWell_5 : decode cX12_laysWell 5 = .ok (.iload_n 1, 1) := by decide +kernel
theorem dX12_laysWell_6 : decode cX12_laysWell 6 = .ok (.sipush 776, 3) := by decide +kernel
theorem dX12_laysWell_9 : decode cX12_laysWell 9 = .ok (.iadd, 1) := by decide +kernel
theorem dX12_laysWell_10 : decode cX12_laysWell 10 = .ok (.iaload, 1) := by decide +kernel
theorem dX12_laysWell_11 : decode cX12_laysWell 11 = .ok (.iconst 1, 1) := by decide +kernel
theorem dX12_laysWell_12 : decode cX12_laysWell 12 = .ok (.if_icmp .ne 7, 3) := by decide +kernel
theorem dX12_laysWell_15 : decode cX12_laysWell 15 = .ok (.iconst 1, 1) := by decide +kernel
theorem dX12_laysWell_16 : decode cX12_laysWell 16 = .ok (.goto 4, 3) := by decide +kernel
theorem dX12_laysWell_19 : decode cX12_laysWell 19 = .ok (.iconst 0, 1) := by decide +kernel
theorem dX12_laysWell_20 : decode cX12_laysWell 20 = .ok (.putfield 181, 3) := by decide +kernel
theorem dX12_laysWell_23 : decode cX12_laysWell 23 = .ok (.aload_n 0, 1) := by decide +kernel
theorem dX12_laysWell_24 : decode cX12_laysWell 24 = .ok (.getfield 10, 3) := by decide +kernel
theorem dX12_laysWell_27 : decode cX12_laysWell 27 = .ok (.iload_n 1, 1) := by decide +kernel
theorem dX12_laysWell_28 : decode cX12_laysWell 28 = .ok (.sipush 772, 3) := by decide +kernel
theorem dX12_laysWell_31 : decode cX12_laysWell 31 = .ok (.iadd, 1) := by decide +kernel
theorem dX12_laysWell_32 : decode cX12_laysWell 32 = .ok (.iaload, 1) := by decide +kernel
theorem dX12_laysWell_33 : decode cX12_laysWell 33 = .ok (.iconst 1, 1) := by decide +kernel
theorem dX12_laysWell_34 : decode cX12_laysWell 34 = .ok (.if_icmp .ne 16, 3) := by decide +kernel
theorem dX12_laysWell_37 : decode cX12_laysWell 37 = .ok (.aload_n 0, 1) := by decide +kernel
theorem dX12_laysWell_38 : decode cX12_laysWell 38 = .ok (.iload_n 1, 1) := by decide +kernel
theorem dX12_laysWell_39 : decode cX12_laysWell 39 = .ok (.invokevirtual 175, 3) := by decide +kernel
theorem dX12_laysWell_42 : decode cX12_laysWell 42 = .ok (.aload_n 0, 1) := by decide +kernel
theorem dX12_laysWell_43 : decode cX12_laysWell 43 = .ok (.aload_n 0, 1) := by decide +kernel
theorem dX12_laysWell_44 : decode cX12_laysWell 44 = .ok (.getfield 39, 3) := by decide +kernel
theorem dX12_laysWell_47 : decode cX12_laysWell 47 = .ok (.invokevirtual 178, 3) := by decide +kernel
theorem dX12_laysWell_50 : decode cX12_laysWell 50 = .ok (.iconst 0, 1) := by decide +kernel
theorem dX12_laysWell_51 : decode cX12_laysWell 51 = .ok (.istore_n 2, 1) := by decide +kernel
theorem dX12_laysWell_52 : decode cX12_laysWell 52 = .ok (.iload_n 2, 1) := by decide +kernel
theorem dX12_laysWell_53 : decode cX12_laysWell 53 = .ok (.bipush 44, 2) := by decide +kernel
theorem dX12_laysWell_55 : decode cX12_laysWell 55 = .ok (.if_icmp .ge 99, 3) := by decide +kernel
theorem dX12_laysWell_58 : decode cX12_laysWell 58 = .ok (.aload_n 0, 1) := by decide +kernel
theorem dX12_laysWell_59 : decode cX12_laysWell 59 = .ok (.getfield 48, 3) := by decide +kernel
theorem dX12_laysWell_62 : decode cX12_laysWell 62 = .ok (.iload_n 2, 1) := by decide +kernel
theorem dX12_laysWell_63 : decode cX12_laysWell 63 = .ok (.aload_n 0, 1) := by decide +kernel
theorem dX12_laysWell_64 : decode cX12_laysWell 64 = .ok (.getfield 10, 3) := by decide +kernel
theorem dX12_laysWell_67 : decode cX12_laysWell 67 = .ok (.iload_n 1, 1) := by decide +kernel
theorem dX12_laysWell_68 : decode cX12_laysWell 68 = .ok (.sipush 772, 3) := by decide +kernel
theorem dX12_laysWell_71 : decode cX12_laysWell 71 = .ok (.iadd, 1) := by decide +kernel
theorem dX12_laysWell_72 : decode cX12_laysWell 72 = .ok (.iaload, 1) := by decide +kernel
theorem dX12_laysWell_73 : decode cX12_laysWell 73 = .ok (.iconst 1, 1) := by decide +kernel
theorem dX12_laysWell_74 : decode cX12_laysWell 74 = .ok (.if_icmp .ne 15, 3) := by decide +kernel
theorem dX12_laysWell_77 : decode cX12_laysWell 77 = .ok (.aload_n 0, 1) := by decide +kernel
theorem dX12_laysWell_78 : decode cX12_laysWell 78 = .ok (.getfield 39, 3) := by decide +kernel
theorem dX12_laysWell_81 : decode cX12_laysWell 81 = .ok (.bipush 20, 2) := by decide +kernel
theorem dX12_laysWell_83 : decode cX12_laysWell 83 = .ok (.iload_n 2, 1) := by decide +kernel
theorem dX12_laysWell_84 : decode cX12_laysWell 84 = .ok (.iadd, 1) := by decide +kernel
theorem dX12_laysWell_85 : decode cX12_laysWell 85 = .ok (.iaload, 1) := by decide +kernel
theorem dX12_laysWell_86 : decode cX12_laysWell 86 = .ok (.goto 40, 3) := by decide +kernel
theorem dX12_laysWell_89 : decode cX12_laysWell 89 = .ok (.aload_n 0, 1) := by decide +kernel
theorem dX12_laysWell_90 : decode cX12_laysWell 90 = .ok (.getfield 10, 3) := by decide +kernel
theorem dX12_laysWell_93 : decode cX12_laysWell 93 = .ok (.iload_n 1, 1) := by decide +kernel
theorem dX12_laysWell_94 : decode cX12_laysWell 94 = .ok (.sipush 776, 3) := by decide +kernel
theorem dX12_laysWell_97 : decode cX12_laysWell 97 = .ok (.iadd, 1) := by decide +kernel
theorem dX12_laysWell_98 : decode cX12_laysWell 98 = .ok (.iaload, 1) := by decide +kernel
theorem dX12_laysWell_99 : decode cX12_laysWell 99 = .ok (.ifCond .eq 18, 3) := by decide +kernel
theorem dX12_laysWell_102 : decode cX12_laysWell 102 = .ok (.aload_n 0, 1) := by decide +kernel
theorem dX12_laysWell_103 : decode cX12_laysWell 103 = .ok (.getfield 10, 3) := by decide +kernel
theorem dX12_laysWell_106 : decode cX12_laysWell 106 = .ok (.iload_n 1, 1) := by decide +kernel
theorem dX12_laysWell_107 : decode cX12_laysWell 107 = .ok (.sipush 528, 3) := by decide +kernel
theorem dX12_laysWell_110 : decode cX12_laysWell 110 = .ok (.iadd, 1) := by decide +kernel
theorem dX12_laysWell_111 : decode cX12_laysWell 111 = .ok (.iload_n 2, 1) := by decide +kernel
theorem dX12_laysWell_112 : decode cX12_laysWell 112 = .ok (.iadd, 1) := by decide +kernel
theorem dX12_laysWell_113 : decode cX12_laysWell 113 = .ok (.iaload, 1) := by decide +kernel
theorem dX12_laysWell_114 : decode cX12_laysWell 114 = .ok (.goto 12, 3) := by decide +kernel
theorem dX12_laysWell_117 : decode cX12_laysWell 117 = .ok (.aload_n 0, 1) := by decide +kernel
theorem dX12_laysWell_118 : decode cX12_laysWell 118 = .ok (.iload_n 1, 1) := by decide +kernel
theorem dX12_laysWell_119 : decode cX12_laysWell 119 = .ok (.bipush 20, 2) := by decide +kernel
theorem dX12_laysWell_121 : decode cX12_laysWell 121 = .ok (.iload_n 2, 1) := by decide +kernel
theorem dX12_laysWell_122 : decode cX12_laysWell 122 = .ok (.iadd, 1) := by decide +kernel
theorem dX12_laysWell_123 : decode cX12_laysWell 123 = .ok (.invokevirtual 118, 3) := by decide +kernel
theorem dX12_laysWell_126 : decode cX12_laysWell 126 = .ok (.iastore, 1) := by decide +kernel
theorem dX12_laysWell_127 : decode cX12_laysWell 127 = .ok (.aload_n 0, 1) := by decide +kernel
theorem dX12_laysWell_128 : decode cX12_laysWell 128 = .ok (.getfield 48, 3) := by decide +kernel
theorem dX12_laysWell_131 : decode cX12_laysWell 131 = .ok (.bipush 44, 2) := by decide +kernel
theorem dX12_laysWell_133 : decode cX12_laysWell 133 = .ok (.iload_n 2, 1) := by decide +kernel
theorem dX12_laysWell_134 : decode cX12_laysWell 134 = .ok (.iadd, 1) := by decide +kernel
theorem dX12_laysWell_135 : decode cX12_laysWell 135 = .ok (.aload_n 0, 1) := by decide +kernel
theorem dX12_laysWell_136 : decode cX12_laysWell 136 = .ok (.getfield 10, 3) := by decide +kernel
theorem dX12_laysWell_139 : decode cX12_laysWell 139 = .ok (.iload_n 1, 1) := by decide +kernel
theorem dX12_laysWell_140 : decode cX12_laysWell 140 = .ok (.sipush 572, 3) := by decide +kernel
theorem dX12_laysWell_143 : decode cX12_laysWell 143 = .ok (.iadd, 1) := by decide +kernel
theorem dX12_laysWell_144 : decode cX12_laysWell 144 = .ok (.iload_n 2, 1) := by decide +kernel
theorem dX12_laysWell_145 : decode cX12_laysWell 145 = .ok (.iadd, 1) := by decide +kernel
theorem dX12_laysWell_146 : decode cX12_laysWell 146 = .ok (.iaload, 1) := by decide +kernel
theorem dX12_laysWell_147 : decode cX12_laysWell 147 = .ok (.iastore, 1) := by decide +kernel
theorem dX12_laysWell_148 : decode cX12_laysWell 148 = .ok (.iinc 2 1, 3) := by decide +kernel
theorem dX12_laysWell_151 : decode cX12_laysWell 151 = .ok (.goto (-99), 3) := by decide +kernel
theorem dX12_laysWell_154 : decode cX12_laysWell 154 = .ok (.return_, 1) := by decide +kernel
set_option maxRecDepth 20000 in
theorem ggX12_fateHere_X12_laysImage : GoodIn wsX12_fateHere wsX12_laysImage := goodIn_r _ [8, 1, 9, 10, 26, 27, 28, 29, 30, 31, 32, 33, 34, 35, 36, 37, 38, 39, 40, 41, 42, 43, 44, 45, 46, 47, 48, 49, 50, 51, 52, 53, 54, 55, 56, 57, 58, 59, 60, 61, 62, 63, 64, 65, 66, 67, 68, 69, 70, 71, 72, 73, 74, 75, 76] (by decide +kernel) (by decide +kernel)
set_option maxRecDepth 20000 in
theorem gX12_fateHere_X12_laysImage : GoodIn wsX12_fateHere (wsV RX12 185 RX12 yX12_laysImage wsX12_laysImage) := goodIn_app (goodIn_of _ (by decide +kernel)) ggX12_fateHere_X12_laysImage
set_option maxRecDepth 20000 in
theorem ggX12_fateHere_X12_recovers : GoodIn wsX12_fateHere wsX12_recovers := goodIn_r _ [14, 15, 16, 7, 17, 18, 19, 20, 21, 22, 23, 24, 25, 26, 27, 28, 29, 30, 31, 32, 33, 34, 35, 36, 37, 38, 39, 40, 41, 42, 43, 44, 45, 46, 47, 48, 49, 50, 51, 52, 53, 54, 55, 56, 57, 58, 59, 60, 61, 62, 63, 64, 65, 66, 67, 68, 69, 70, 71, 72, 73, 74, 75, 76] (by decide +kernel) (by decide +kernel)
set_option maxRecDepth 20000 in
theorem gX12_fateHere_X12_recovers : GoodIn wsX12_fateHere (wsV RX12 178 RX12 yX12_recovers wsX12_recovers) := goodIn_app (goodIn_of _ (by decide +kernel)) ggX12_fateHere_X12_recovers
theorem dX12_fateHere_0 : decode cX12_fateHere 0 = .ok (.aload_n 0, 1) := by decide +kernel
theorem dX12_fateHere_1 : decode cX12_fateHere 1 = .ok (.iload_n 1, 1) := by decide +kernel
theorem dX12_fateHere_2 : decode cX12_fateHere 2 = .ok (.invokevirtual 185, 3) := by decide +kernel
theorem dX12_fateHere_5 : decode cX12_fateHere 5 = .ok (.aload_n 0, 1) := by decide +kernel
theorem dX12_fateHere_6 : decode cX12_fateHere 6 = .ok (.aload_n 0, 1) := by decide +kernel
theorem dX12_fateHere_7 : decode cX12_fateHere 7 = .ok (.getfield 45, 3) := by decide +kernel
theorem dX12_fateHere_10 : decode cX12_fateHere 10 = .ok (.invokevirtual 178, 3) := by decide +kernel
theorem dX12_fateHere_13 : decode cX12_fateHere 13 = .ok (.iconst 1, 1) := by decide +kernel
theorem dX12_fateHere_14 : decode cX12_fateHere 14 = .ok (.istore_n 2, 1) := by decide +kernel
theorem dX12_fateHere_15 : decode cX12_fateHere 15 = .ok (.aload_n 0, 1) := by decide +kernel
theorem dX12_fateHere_16 : decode cX12_fateHere 16 = .ok (.getfield 181, 3) := by decide +kernel
theorem dX12_fateHere_19 : decode cX12_fateHere 19 = .ok (.istore_n 3, 1) := by decide +kernel
theorem dX12_fateHere_20 : decode cX12_fateHere 20 = .ok (.iconst 0, 1) := by decide +kernel
theorem dX12_fateHere_21 : decode cX12_fateHere 21 = .ok (.istore 4, 2) := by decide +kernel
theorem dX12_fateHere_23 : decode cX12_fateHere 23 = .ok (.iload 4, 2) := by decide +kernel
theorem dX12_fateHere_25 : decode cX12_fateHere 25 = .ok (.bipush 44, 2) := by decide +kernel
theorem dX12_fateHere_27 : decode cX12_fateHere 27 = .ok (.if_icmp .ge 72, 3) := by decide +kernel
theorem dX12_fateHere_30 : decode cX12_fateHere 30 = .ok (.iload_n 2, 1) := by decide +kernel
theorem dX12_fateHere_31 : decode cX12_fateHere 31 = .ok (.ifCond .eq 27, 3) := by decide +kernel
theorem dX12_fateHere_34 : decode cX12_fateHere 34 = .ok (.aload_n 0, 1) := by decide +kernel
theorem dX12_fateHere_35 : decode cX12_fateHere 35 = .ok (.getfield 45, 3) := by decide +kernel
theorem dX12_fateHere_38 : decode cX12_fateHere 38 = .ok (.bipush 20, 2) := by decide +kernel
theorem dX12_fateHere_40 : decode cX12_fateHere 40 = .ok (.iload 4, 2) := by decide +kernel
theorem dX12_fateHere_42 : decode cX12_fateHere 42 = .ok (.iadd, 1) := by decide +kernel
theorem dX12_fateHere_43 : decode cX12_fateHere 43 = .ok (.iaload, 1) := by decide +kernel
theorem dX12_fateHere_44 : decode cX12_fateHere 44 = .ok (.aload_n 0, 1) := by decide +kernel
theorem dX12_fateHere_45 : decode cX12_fateHere 45 = .ok (.getfield 48, 3) := by decide +kernel
theorem dX12_fateHere_48 : decode cX12_fateHere 48 = .ok (.iload 4, 2) := by decide +kernel
theorem dX12_fateHere_50 : decode cX12_fateHere 50 = .ok (.iaload, 1) := by decide +kernel
theorem dX12_fateHere_51 : decode cX12_fateHere 51 = .ok (.if_icmp .ne 7, 3) := by decide +kernel
theorem dX12_fateHere_54 : decode cX12_fateHere 54 = .ok (.iconst 1, 1) := by decide +kernel
theorem dX12_fateHere_55 : decode cX12_fateHere 55 = .ok (.goto 4, 3) := by decide +kernel
theorem dX12_fateHere_58 : decode cX12_fateHere 58 = .ok (.iconst 0, 1) := by decide +kernel
theorem dX12_fateHere_59 : decode cX12_fateHere 59 = .ok (.istore_n 2, 1) := by decide +kernel
theorem dX12_fateHere_60 : decode cX12_fateHere 60 = .ok (.iload_n 3, 1) := by decide +kernel
theorem dX12_fateHere_61 : decode cX12_fateHere 61 = .ok (.ifCond .eq 30, 3) := by decide +kernel
theorem dX12_fateHere_64 : decode cX12_fateHere 64 = .ok (.aload_n 0, 1) := by decide +kernel
theorem dX12_fateHere_65 : decode cX12_fateHere 65 = .ok (.getfield 45, 3) := by decide +kernel
theorem dX12_fateHere_68 : decode cX12_fateHere 68 = .ok (.bipush 20, 2) := by decide +kernel
theorem dX12_fateHere_70 : decode cX12_fateHere 70 = .ok (.iload 4, 2) := by decide +kernel
theorem dX12_fateHere_72 : decode cX12_fateHere 72 = .ok (.iadd, 1) := by decide +kernel
theorem dX12_fateHere_73 : decode cX12_fateHere 73 = .ok (.iaload, 1) := by decide +kernel
theorem dX12_fateHere_74 : decode cX12_fateHere 74 = .ok (.aload_n 0, 1) := by decide +kernel
theorem dX12_fateHere_75 : decode cX12_fateHere 75 = .ok (.getfield 48, 3) := by decide +kernel
theorem dX12_fateHere_78 : decode cX12_fateHere 78 = .ok (.bipush 44, 2) := by decide +kernel
theorem dX12_fateHere_80 : decode cX12_fateHere 80 = .ok (.iload 4, 2) := by decide +kernel
theorem dX12_fateHere_82 : decode cX12_fateHere 82 = .ok (.iadd, 1) := by decide +kernel
theorem dX12_fateHere_83 : decode cX12_fateHere 83 = .ok (.iaload, 1) := by decide +kernel
theorem dX12_fateHere_84 : decode cX12_fateHere 84 = .ok (.if_icmp .ne 7, 3) := by decide +kernel
theorem dX12_fateHere_87 : decode cX12_fateHere 87 = .ok (.iconst 1, 1) := by decide +kernel
theorem dX12_fateHere_88 : decode cX12_fateHere 88 = .ok (.goto 4, 3) := by decide +kernel
theorem dX12_fateHere_91 : decode cX12_fateHere 91 = .ok (.iconst 0, 1) := by decide +kernel
theorem dX12_fateHere_92 : decode cX12_fateHere 92 = .ok (.istore_n 3, 1) := by decide +kernel
theorem dX12_fateHere_93 : decode cX12_fateHere 93 = .ok (.iinc 4 1, 3) := by decide +kernel
theorem dX12_fateHere_96 : decode cX12_fateHere 96 = .ok (.goto (-73), 3) := by decide +kernel
theorem dX12_fateHere_99 : decode cX12_fateHere 99 = .ok (.aload_n 0, 1) := by decide +kernel
theorem dX12_fateHere_100 : decode cX12_fateHere 100 = .ok (.getfield 181, 3) := by decide +kernel
theorem dX12_fateHere_103 : decode cX12_fateHere 103 = .ok (.ifCond .ne 13, 3) := by decide +kernel
theorem dX12_fateHere_106 : decode cX12_fateHere 106 = .ok (.iload_n 2, 1) := by decide +kernel
theorem dX12_fateHere_107 : decode cX12_fateHere 107 = .ok (.ifCond .eq 7, 3) := by decide +kernel
theorem dX12_fateHere_110 : decode cX12_fateHere 110 = .ok (.iconst 2, 1) := by decide +kernel
theorem dX12_fateHere_111 : decode cX12_fateHere 111 = .ok (.goto 4, 3) := by decide +kernel
theorem dX12_fateHere_114 : decode cX12_fateHere 114 = .ok (.iconst 3, 1) := by decide +kernel
theorem dX12_fateHere_115 : decode cX12_fateHere 115 = .ok (.ireturn, 1) := by decide +kernel
theorem dX12_fateHere_116 : decode cX12_fateHere 116 = .ok (.iload_n 2, 1) := by decide +kernel
theorem dX12_fateHere_117 : decode cX12_fateHere 117 = .ok (.ifCond .eq 11, 3) := by decide +kernel
theorem dX12_fateHere_120 : decode cX12_fateHere 120 = .ok (.iload_n 3, 1) := by decide +kernel
theorem dX12_fateHere_121 : decode cX12_fateHere 121 = .ok (.ifCond .eq 7, 3) := by decide +kernel
theorem dX12_fateHere_124 : decode cX12_fateHere 124 = .ok (.iconst 2, 1) := by decide +kernel
theorem dX12_fateHere_125 : decode cX12_fateHere 125 = .ok (.goto 20, 3) := by decide +kernel
theorem dX12_fateHere_128 : decode cX12_fateHere 128 = .ok (.iload_n 2, 1) := by decide +kernel
theorem dX12_fateHere_129 : decode cX12_fateHere 129 = .ok (.ifCond .eq 7, 3) := by decide +kernel
theorem dX12_fateHere_132 : decode cX12_fateHere 132 = .ok (.iconst 0, 1) := by decide +kernel
theorem dX12_fateHere_133 : decode cX12_fateHere 133 = .ok (.goto 12, 3) := by decide +kernel
theorem dX12_fateHere_136 : decode cX12_fateHere 136 = .ok (.iload_n 3, 1) := by decide +kernel
theorem dX12_fateHere_137 : decode cX12_fateHere 137 = .ok (.ifCond .eq 7, 3) := by decide +kernel
theorem dX12_fateHere_140 : decode cX12_fateHere 140 = .ok (.iconst 1, 1) := by decide +kernel
theorem dX12_fateHere_141 : decode cX12_fateHere 141 = .ok (.goto 4, 3) := by decide +kernel
theorem dX12_fateHere_144 : decode cX12_fateHere 144 = .ok (.iconst 3, 1) := by decide +kernel
theorem dX12_fateHere_145 : decode cX12_fateHere 145 = .ok (.ireturn, 1) := by decide +kernel
set_option maxRecDepth 20000 in
theorem ggX12_looks_X12_ordersOf : GoodIn wsX12_looks wsX12_ordersOf := goodIn_r _ [10, 11, 60, 61, 62, 63, 64, 65, 66, 67, 68, 69, 70, 71, 72, 73, 74, 75, 76, 77, 78, 79, 80, 81, 82, 83, 84, 85, 86, 87, 88, 89, 90, 91, 92, 93, 94, 95, 96, 97, 98, 99, 100, 101, 102, 103, 104, 105, 106, 107, 108, 109, 110] (by decide +kernel) (by decide +kernel)
set_option maxRecDepth 20000 in
theorem gX12_looks_X12_ordersOf : GoodIn wsX12_looks (wsV RX12 188 RX12 yX12_ordersOf wsX12_ordersOf) := goodIn_app (goodIn_of _ (by decide +kernel)) ggX12_looks_X12_ordersOf
set_option maxRecDepth 20000 in
theorem ggX12_looks_X12_laysWell : GoodIn wsX12_looks wsX12_laysWell := goodIn_r _ [15, 11, 16, 17, 18, 19, 20, 21, 9, 22, 23, 24, 25, 26, 27, 28, 29, 30, 31, 32, 33, 34, 35, 36, 37, 38, 39, 40, 41, 60, 61, 62, 63, 64, 65, 66, 67, 68, 69, 70, 71, 72, 73, 74, 75, 76, 77, 78, 79, 80, 81, 82, 83, 84, 85, 86, 87, 88, 89, 90, 91, 92, 93, 94, 95, 96, 97, 98, 99, 100, 101, 102, 103, 104, 105, 106, 107, 108, 109, 110] (by decide +kernel) (by decide +kernel)
set_option maxRecDepth 20000 in
theorem gX12_looks_X12_laysWell : GoodIn wsX12_looks (wsV RX12 197 RX12 yX12_laysWell wsX12_laysWell) := goodIn_app (goodIn_of _ (by decide +kernel)) ggX12_looks_X12_laysWell
set_option maxRecDepth 20000 in
theorem ggX12_looks_X12_firstOrder : GoodIn wsX12_looks wsX12_firstOrder := goodIn_r _ [45, 46, 60, 61, 62, 63, 64, 65, 66, 67, 68, 69, 70, 71, 72, 73, 74, 75, 76, 77, 78, 79, 80, 81, 82, 83, 84, 85, 86, 87, 88, 89, 90, 91, 92, 93, 94, 95, 96, 97, 98, 99, 100, 101, 102, 103, 104, 105, 106, 107, 108, 109, 110] (by decide +kernel) (by decide +kernel)
set_option maxRecDepth 20000 in
theorem gX12_looks_X12_firstOrder : GoodIn wsX12_looks (wsV RX12 200 RX12 yX12_firstOrder wsX12_firstOrder) := goodIn_app (goodIn_of _ (by decide +kernel)) ggX12_looks_X12_firstOrder
set_option maxRecDepth 20000 in
theorem ggX12_looks_X12_fateHere : GoodIn wsX12_looks wsX12_fateHere := goodIn_r _ [50, 51, 16, 18, 52, 53, 54, 9, 55, 11, 46, 23, 24, 25, 26, 27, 28, 29, 30, 31, 32, 33, 34, 35, 36, 37, 60, 61, 62, 63, 64, 65, 66, 67, 68, 69, 70, 71, 72, 73, 74, 75, 76, 77, 78, 79, 80, 81, 82, 83, 84, 85, 86, 87, 88, 89, 90, 91, 92, 93, 94, 95, 96, 97, 98, 99, 100, 101, 102, 103, 104, 105, 106, 107, 108, 109, 110] (by decide +kernel) (by decide +kernel)
set_option maxRecDepth 20000 in
theorem gX12_looks_X12_fateHere : GoodIn wsX12_looks (wsV RX12 203 RX12 yX12_fateHere wsX12_fateHere) := goodIn_app (goodIn_of _ (by decide +kernel)) ggX12_looks_X12_fateHere
set_option maxRecDepth 20000 in
theorem ggX12_looks_X12_nextOrder : GoodIn wsX12_looks wsX12_nextOrder := goodIn_r _ [59, 46, 11, 60, 61, 62, 63, 64, 65, 66, 67, 68, 69, 70, 71, 72, 73, 74, 75, 76, 77, 78, 79, 80, 81, 82, 83, 84, 85, 86, 87, 88, 89, 90, 91, 92, 93, 94, 95, 96, 97, 98, 99, 100, 101, 102, 103, 104, 105, 106, 107, 108, 109, 110] (by decide +kernel) (by decide +kernel)
set_option maxRecDepth 20000 in
theorem gX12_looks_X12_nextOrder : GoodIn wsX12_looks (wsV RX12 215 RX12 yX12_nextOrder wsX12_nextOrder) := goodIn_app (goodIn_of _ (by decide +kernel)) ggX12_looks_X12_nextOrder
theorem dX12_looks_0 : decode cX12_looks 0 = .ok (.aload_n 0, 1) := by decide +kernel
theorem dX12_looks_1 : decode cX12_looks 1 = .ok (.iload_n 1, 1) := by decide +kernel
theorem dX12_looks_2 : decode cX12_looks 2 = .ok (.invokevirtual 188, 3) := by decide +kernel
theorem dX12_looks_5 : decode cX12_looks 5 = .ok (.lstore_n 3, 1) := by decide +kernel
theorem dX12_looks_6 : decode cX12_looks 6 = .ok (.aload_n 0, 1) := by decide +kernel
theorem dX12_looks_7 : decode cX12_looks 7 = .ok (.lload_n 3, 1) := by decide +kernel
theorem dX12_looks_8 : decode cX12_looks 8 = .ok (.ldc2_w 192, 3) := by decide +kernel
theorem dX12_looks_11 : decode cX12_looks 11 = .ok (.lcmp, 1) := by decide +kernel
theorem dX12_looks_12 : decode cX12_looks 12 = .ok (.ifCond .le 7, 3) := by decide +kernel
theorem dX12_looks_15 : decode cX12_looks 15 = .ok (.iconst 1, 1) := by decide +kernel
theorem dX12_looks_16 : decode cX12_looks 16 = .ok (.goto 4, 3) := by decide +kernel
theorem dX12_looks_19 : decode cX12_looks 19 = .ok (.iconst 0, 1) := by decide +kernel
theorem dX12_looks_20 : decode cX12_looks 20 = .ok (.putfield 194, 3) := by decide +kernel
theorem dX12_looks_23 : decode cX12_looks 23 = .ok (.aload_n 0, 1) := by decide +kernel
theorem dX12_looks_24 : decode cX12_looks 24 = .ok (.getfield 194, 3) := by decide +kernel
theorem dX12_looks_27 : decode cX12_looks 27 = .ok (.ifCond .eq 4, 3) := by decide +kernel
theorem dX12_looks_30 : decode cX12_looks 30 = .ok (.return_, 1) := by decide +kernel
theorem dX12_looks_31 : decode cX12_looks 31 = .ok (.aload_n 0, 1) := by decide +kernel
theorem dX12_looks_32 : decode cX12_looks 32 = .ok (.iload_n 1, 1) := by decide +kernel
theorem dX12_looks_33 : decode cX12_looks 33 = .ok (.invokevirtual 197, 3) := by decide +kernel
theorem dX12_looks_36 : decode cX12_looks 36 = .ok (.aload_n 0, 1) := by decide +kernel
theorem dX12_looks_37 : decode cX12_looks 37 = .ok (.invokevirtual 200, 3) := by decide +kernel
theorem dX12_looks_40 : decode cX12_looks 40 = .ok (.iconst 0, 1) := by decide +kernel
theorem dX12_looks_41 : decode cX12_looks 41 = .ok (.istore 5, 2) := by decide +kernel
theorem dX12_looks_43 : decode cX12_looks 43 = .ok (.iload 5, 2) := by decide +kernel
theorem dX12_looks_45 : decode cX12_looks 45 = .ok (.i2l, 1) := by decide +kernel
theorem dX12_looks_46 : decode cX12_looks 46 = .ok (.lload_n 3, 1) := by decide +kernel
theorem dX12_looks_47 : decode cX12_looks 47 = .ok (.lcmp, 1) := by decide +kernel
theorem dX12_looks_48 : decode cX12_looks 48 = .ok (.ifCond .ge 52, 3) := by decide +kernel
theorem dX12_looks_51 : decode cX12_looks 51 = .ok (.aload_n 0, 1) := by decide +kernel
theorem dX12_looks_52 : decode cX12_looks 52 = .ok (.iload_n 1, 1) := by decide +kernel
theorem dX12_looks_53 : decode cX12_looks 53 = .ok (.invokevirtual 203, 3) := by decide +kernel
theorem dX12_looks_56 : decode cX12_looks 56 = .ok (.iconst 3, 1) := by decide +kernel
theorem dX12_looks_57 : decode cX12_looks 57 = .ok (.if_icmp .ne 32, 3) := by decide +kernel
theorem dX12_looks_60 : decode cX12_looks 60 = .ok (.aload_n 0, 1) := by decide +kernel
theorem dX12_looks_61 : decode cX12_looks 61 = .ok (.dup, 1) := by decide +kernel
theorem dX12_looks_62 : decode cX12_looks 62 = .ok (.getfield 206, 3) := by decide +kernel
theorem dX12_looks_65 : decode cX12_looks 65 = .ok (.iconst 1, 1) := by decide +kernel
theorem dX12_looks_66 : decode cX12_looks 66 = .ok (.iadd, 1) := by decide +kernel
theorem dX12_looks_67 : decode cX12_looks 67 = .ok (.putfield 206, 3) := by decide +kernel
theorem dX12_looks_70 : decode cX12_looks 70 = .ok (.aload_n 0, 1) := by decide +kernel
theorem dX12_looks_71 : decode cX12_looks 71 = .ok (.getfield 209, 3) := by decide +kernel
theorem dX12_looks_74 : decode cX12_looks 74 = .ok (.iconst (-1), 1) := by decide +kernel
theorem dX12_looks_75 : decode cX12_looks 75 = .ok (.if_icmp .ne 14, 3) := by decide +kernel
theorem dX12_looks_78 : decode cX12_looks 78 = .ok (.aload_n 0, 1) := by decide +kernel
theorem dX12_looks_79 : decode cX12_looks 79 = .ok (.iload_n 2, 1) := by decide +kernel
theorem dX12_looks_80 : decode cX12_looks 80 = .ok (.putfield 209, 3) := by decide +kernel
theorem dX12_looks_83 : decode cX12_looks 83 = .ok (.aload_n 0, 1) := by decide +kernel
theorem dX12_looks_84 : decode cX12_looks 84 = .ok (.iload 5, 2) := by decide +kernel
theorem dX12_looks_86 : decode cX12_looks 86 = .ok (.putfield 212, 3) := by decide +kernel
theorem dX12_looks_89 : decode cX12_looks 89 = .ok (.aload_n 0, 1) := by decide +kernel
theorem dX12_looks_90 : decode cX12_looks 90 = .ok (.iload_n 1, 1) := by decide +kernel
theorem dX12_looks_91 : decode cX12_looks 91 = .ok (.invokevirtual 215, 3) := by decide +kernel
theorem dX12_looks_94 : decode cX12_looks 94 = .ok (.iinc 5 1, 3) := by decide +kernel
theorem dX12_looks_97 : decode cX12_looks 97 = .ok (.goto (-54), 3) := by decide +kernel
theorem dX12_looks_100 : decode cX12_looks 100 = .ok (.return_, 1) := by decide +kernel
set_option maxRecDepth 20000 in
theorem ggX12_checks_X12_tries : GoodIn wsX12_checks wsX12_tries := goodIn_r _ [10, 11, 12, 13, 9, 14, 1, 174, 175, 176, 177, 178, 179, 180, 181, 182, 183, 184, 185, 186, 187, 188, 189, 190, 191, 192, 193, 194, 195, 196, 197, 198, 199, 200, 201, 202, 203, 204, 205, 206, 207, 208, 209, 210, 211, 212, 213, 214, 215, 216, 217, 218, 219, 220, 221, 222, 223, 224] (by decide +kernel) (by decide +kernel)
set_option maxRecDepth 20000 in
theorem gX12_checks_X12_tries : GoodIn wsX12_checks (wsV RX12 218 RX12 yX12_tries wsX12_tries) := goodIn_app (goodIn_of _ (by decide +kernel)) ggX12_checks_X12_tries
set_option maxRecDepth 20000 in
theorem ggX12_checks_X12_recovery : GoodIn wsX12_checks wsX12_recovery := goodIn_r _ [18, 1, 19, 20, 21, 22, 23, 24, 25, 9, 26, 27, 28, 29, 30, 31, 32, 33, 34, 35, 36, 37, 38, 39, 40, 41, 42, 43, 44, 45, 46, 47, 48, 49, 50, 51, 52, 53, 54, 55, 56, 57, 58, 59, 60, 61, 62, 63, 64, 65, 174, 175, 176, 177, 178, 179, 180, 181, 182, 183, 184, 185, 186, 187, 188, 189, 190, 191, 192, 193, 194, 195, 196, 197, 198, 199, 200, 201, 202, 203, 204, 205, 206, 207, 208, 209, 210, 211, 212, 213, 214, 215, 216, 217, 218, 219, 220, 221, 222, 223, 224] (by decide +kernel) (by decide +kernel)
set_option maxRecDepth 20000 in
theorem gX12_checks_X12_recovery : GoodIn wsX12_checks (wsV RX12 221 RX12 yX12_recovery wsX12_recovery) := goodIn_app (goodIn_of _ (by decide +kernel)) ggX12_checks_X12_recovery
set_option maxRecDepth 20000 in
theorem ggX12_checks_X12_copies : GoodIn wsX12_checks wsX12_copies := goodIn_r _ [14, 1, 174, 175, 176, 177, 178, 179, 180, 181, 182, 183, 184, 185, 186, 187, 188, 189, 190, 191, 192, 193, 194, 195, 196, 197, 198, 199, 200, 201, 202, 203, 204, 205, 206, 207, 208, 209, 210, 211, 212, 213, 214, 215, 216, 217, 218, 219, 220, 221, 222, 223, 224] (by decide +kernel) (by decide +kernel)
set_option maxRecDepth 20000 in
theorem gX12_checks_X12_copies : GoodIn wsX12_checks (wsV RX12 224 RX12 yX12_copies wsX12_copies) := goodIn_app (goodIn_of _ (by decide +kernel)) ggX12_checks_X12_copies
set_option maxRecDepth 20000 in
theorem ggX12_checks_X12_isBegun : GoodIn wsX12_checks wsX12_isBegun := goodIn_r _ [69, 1, 70, 71, 72, 73, 9, 74, 20, 75, 76, 77, 78, 79, 80, 81, 82, 83, 84, 85, 86, 87, 88, 89, 90, 21, 22, 91, 92, 93, 94, 95, 96, 97, 98, 99, 100, 101, 102, 103, 104, 105, 106, 107, 108, 109, 110, 111, 112, 113, 114, 115, 116, 117, 118, 119, 120, 121, 122, 123, 124, 34, 38, 39, 40, 41, 46, 47, 48, 49, 50, 51, 52, 53, 54, 55, 56, 57, 58, 59, 60, 61, 42, 43, 44, 45, 174, 175, 176, 177, 178, 179, 180, 181, 182, 183, 184, 185, 186, 187, 188, 189, 190, 191, 192, 193, 194, 195, 196, 197, 198, 199, 200, 201, 202, 203, 204, 205, 206, 207, 208, 209, 210, 211, 212, 213, 214, 215, 216, 217, 218, 219, 220, 221, 222, 223, 224] (by decide +kernel) (by decide +kernel)
set_option maxRecDepth 20000 in
theorem gX12_checks_X12_isBegun : GoodIn wsX12_checks (wsV RX12 160 RX12 yX12_isBegun wsX12_isBegun) := goodIn_app (goodIn_of _ (by decide +kernel)) ggX12_checks_X12_isBegun
set_option maxRecDepth 20000 in
theorem ggX12_checks_X12_looks : GoodIn wsX12_checks wsX12_looks := goodIn_r _ [128, 129, 5, 2, 4, 3, 130, 131, 132, 9, 133, 1, 134, 135, 136, 137, 138, 19, 139, 23, 24, 25, 26, 62, 63, 64, 65, 27, 28, 29, 30, 31, 32, 33, 34, 35, 36, 37, 79, 80, 81, 82, 140, 141, 142, 143, 144, 145, 146, 147, 148, 149, 150, 151, 152, 153, 154, 155, 156, 157, 174, 175, 176, 177, 178, 179, 180, 181, 182, 183, 184, 185, 186, 187, 188, 189, 190, 191, 192, 193, 194, 195, 196, 197, 198, 199, 200, 201, 202, 203, 204, 205, 206, 207, 208, 209, 210, 211, 212, 213, 214, 215, 216, 217, 218, 219, 220, 221, 222, 223, 224] (by decide +kernel) (by decide +kernel)
set_option maxRecDepth 20000 in
theorem gX12_checks_X12_looks : GoodIn wsX12_checks (wsV RX12 227 RX12 yX12_looks wsX12_looks) := goodIn_app (goodIn_of _ (by decide +kernel)) ggX12_checks_X12_looks
set_option maxRecDepth 20000 in
theorem ggX12_checks_X12_isStep : GoodIn wsX12_checks wsX12_isStep := goodIn_r _ [161, 1, 66, 67, 68, 9, 69, 70, 71, 72, 73, 74, 20, 75, 76, 77, 78, 79, 80, 81, 82, 83, 84, 85, 86, 87, 88, 89, 90, 21, 22, 91, 92, 93, 94, 95, 96, 97, 98, 99, 100, 101, 102, 103, 104, 105, 106, 107, 108, 109, 110, 111, 112, 113, 114, 115, 116, 117, 118, 119, 120, 121, 122, 123, 124, 34, 38, 39, 40, 41, 46, 47, 48, 49, 50, 51, 52, 53, 54, 55, 56, 57, 58, 59, 60, 61, 42, 43, 44, 45, 162, 163, 164, 165, 166, 167, 168, 169, 170, 171, 172, 173, 174, 175, 176, 177, 178, 179, 180, 181, 182, 183, 184, 185, 186, 187, 188, 189, 190, 191, 192, 193, 194, 195, 196, 197, 198, 199, 200, 201, 202, 203, 204, 205, 206, 207, 208, 209, 210, 211, 212, 213, 214, 215, 216, 217, 218, 219, 220, 221, 222, 223, 224] (by decide +kernel) (by decide +kernel)
set_option maxRecDepth 20000 in
theorem gX12_checks_X12_isStep : GoodIn wsX12_checks (wsV RX12 230 RX12 yX12_isStep wsX12_isStep) := goodIn_app (goodIn_of _ (by decide +kernel)) ggX12_checks_X12_isStep
theorem dX12_checks_0 : decode cX12_checks 0 = .ok (.aload_n 0, 1) := by decide +kernel
theorem dX12_checks_1 : decode cX12_checks 1 = .ok (.invokevirtual 218, 3) := by decide +kernel
theorem dX12_checks_4 : decode cX12_checks 4 = .ok (.aload_n 0, 1) := by decide +kernel
theorem dX12_checks_5 : decode cX12_checks 5 = .ok (.getfield 10, 3) := by decide +kernel
theorem dX12_checks_8 : decode cX12_checks 8 = .ok (.sipush 1559, 3) := by decide +kernel
theorem dX12_checks_11 : decode cX12_checks 11 = .ok (.iload_n 1, 1) := by decide +kernel
theorem dX12_checks_12 : decode cX12_checks 12 = .ok (.iastore, 1) := by decide +kernel
theorem dX12_checks_13 : decode cX12_checks 13 = .ok (.aload_n 0, 1) := by decide +kernel
theorem dX12_checks_14 : decode cX12_checks 14 = .ok (.iconst 0, 1) := by decide +kernel
theorem dX12_checks_15 : decode cX12_checks 15 = .ok (.putfield 206, 3) := by decide +kernel
theorem dX12_checks_18 : decode cX12_checks 18 = .ok (.aload_n 0, 1) := by decide +kernel
theorem dX12_checks_19 : decode cX12_checks 19 = .ok (.aload_n 0, 1) := by decide +kernel
theorem dX12_checks_20 : decode cX12_checks 20 = .ok (.iconst (-1), 1) := by decide +kernel
theorem dX12_checks_21 : decode cX12_checks 21 = .ok (.dup_x1, 1) := by decide +kernel
theorem dX12_checks_22 : decode cX12_checks 22 = .ok (.putfield 212, 3) := by decide +kernel
theorem dX12_checks_25 : decode cX12_checks 25 = .ok (.putfield 209, 3) := by decide +kernel
theorem dX12_checks_28 : decode cX12_checks 28 = .ok (.aload_n 0, 1) := by decide +kernel
theorem dX12_checks_29 : decode cX12_checks 29 = .ok (.getfield 10, 3) := by decide +kernel
theorem dX12_checks_32 : decode cX12_checks 32 = .ok (.sipush 1558, 3) := by decide +kernel
theorem dX12_checks_35 : decode cX12_checks 35 = .ok (.iaload, 1) := by decide +kernel
theorem dX12_checks_36 : decode cX12_checks 36 = .ok (.iconst 1, 1) := by decide +kernel
theorem dX12_checks_37 : decode cX12_checks 37 = .ok (.if_icmp .ne 7, 3) := by decide +kernel
theorem dX12_checks_40 : decode cX12_checks 40 = .ok (.iconst 1, 1) := by decide +kernel
theorem dX12_checks_41 : decode cX12_checks 41 = .ok (.goto 4, 3) := by decide +kernel
theorem dX12_checks_44 : decode cX12_checks 44 = .ok (.iconst 0, 1) := by decide +kernel
theorem dX12_checks_45 : decode cX12_checks 45 = .ok (.istore_n 2, 1) := by decide +kernel
theorem dX12_checks_46 : decode cX12_checks 46 = .ok (.iload_n 2, 1) := by decide +kernel
theorem dX12_checks_47 : decode cX12_checks 47 = .ok (.ifCond .eq 10, 3) := by decide +kernel
theorem dX12_checks_50 : decode cX12_checks 50 = .ok (.aload_n 0, 1) := by decide +kernel
theorem dX12_checks_51 : decode cX12_checks 51 = .ok (.sipush 786, 3) := by decide +kernel
theorem dX12_checks_54 : decode cX12_checks 54 = .ok (.invokevirtual 221, 3) := by decide +kernel
theorem dX12_checks_57 : decode cX12_checks 57 = .ok (.aload_n 0, 1) := by decide +kernel
theorem dX12_checks_58 : decode cX12_checks 58 = .ok (.sipush 786, 3) := by decide +kernel
theorem dX12_checks_61 : decode cX12_checks 61 = .ok (.sipush 1572, 3) := by decide +kernel
theorem dX12_checks_64 : decode cX12_checks 64 = .ok (.sipush 786, 3) := by decide +kernel
theorem dX12_checks_67 : decode cX12_checks 67 = .ok (.invokevirtual 224, 3) := by decide +kernel
theorem dX12_checks_70 : decode cX12_checks 70 = .ok (.aload_n 0, 1) := by decide +kernel
theorem dX12_checks_71 : decode cX12_checks 71 = .ok (.getfield 10, 3) := by decide +kernel
theorem dX12_checks_74 : decode cX12_checks 74 = .ok (.sipush 1562, 3) := by decide +kernel
theorem dX12_checks_77 : decode cX12_checks 77 = .ok (.iaload, 1) := by decide +kernel
theorem dX12_checks_78 : decode cX12_checks 78 = .ok (.ifCond .ne 17, 3) := by decide +kernel
theorem dX12_checks_81 : decode cX12_checks 81 = .ok (.iload_n 2, 1) := by decide +kernel
theorem dX12_checks_82 : decode cX12_checks 82 = .ok (.ifCond .ne 17, 3) := by decide +kernel
theorem dX12_checks_85 : decode cX12_checks 85 = .ok (.aload_n 0, 1) := by decide +kernel
theorem dX12_checks_86 : decode cX12_checks 86 = .ok (.sipush 1572, 3) := by decide +kernel
theorem dX12_checks_89 : decode cX12_checks 89 = .ok (.invokevirtual 160, 3) := by decide +kernel
theorem dX12_checks_92 : decode cX12_checks 92 = .ok (.ifCond .eq 7, 3) := by decide +kernel
theorem dX12_checks_95 : decode cX12_checks 95 = .ok (.iconst 1, 1) := by decide +kernel
theorem dX12_checks_96 : decode cX12_checks 96 = .ok (.goto 4, 3) := by decide +kernel
theorem dX12_checks_99 : decode cX12_checks 99 = .ok (.iconst 0, 1) := by decide +kernel
theorem dX12_checks_100 : decode cX12_checks 100 = .ok (.istore_n 3, 1) := by decide +kernel
theorem dX12_checks_101 : decode cX12_checks 101 = .ok (.aload_n 0, 1) := by decide +kernel
theorem dX12_checks_102 : decode cX12_checks 102 = .ok (.sipush 786, 3) := by decide +kernel
theorem dX12_checks_105 : decode cX12_checks 105 = .ok (.iconst 0, 1) := by decide +kernel
theorem dX12_checks_106 : decode cX12_checks 106 = .ok (.invokevirtual 227, 3) := by decide +kernel
theorem dX12_checks_109 : decode cX12_checks 109 = .ok (.iconst 1, 1) := by decide +kernel
theorem dX12_checks_110 : decode cX12_checks 110 = .ok (.istore 4, 2) := by decide +kernel
theorem dX12_checks_112 : decode cX12_checks 112 = .ok (.iload_n 3, 1) := by decide +kernel
theorem dX12_checks_113 : decode cX12_checks 113 = .ok (.ifCond .eq 51, 3) := by decide +kernel
theorem dX12_checks_116 : decode cX12_checks 116 = .ok (.aload_n 0, 1) := by decide +kernel
theorem dX12_checks_117 : decode cX12_checks 117 = .ok (.getfield 194, 3) := by decide +kernel
theorem dX12_checks_120 : decode cX12_checks 120 = .ok (.ifCond .ne 44, 3) := by decide +kernel
theorem dX12_checks_123 : decode cX12_checks 123 = .ok (.aload_n 0, 1) := by decide +kernel
theorem dX12_checks_124 : decode cX12_checks 124 = .ok (.sipush 786, 3) := by decide +kernel
theorem dX12_checks_127 : decode cX12_checks 127 = .ok (.invokevirtual 230, 3) := by decide +kernel
theorem dX12_checks_130 : decode cX12_checks 130 = .ok (.istore 5, 2) := by decide +kernel
theorem dX12_checks_132 : decode cX12_checks 132 = .ok (.aload_n 0, 1) := by decide +kernel
theorem dX12_checks_133 : decode cX12_checks 133 = .ok (.sipush 786, 3) := by decide +kernel
theorem dX12_checks_136 : decode cX12_checks 136 = .ok (.iload 4, 2) := by decide +kernel
theorem dX12_checks_138 : decode cX12_checks 138 = .ok (.invokevirtual 227, 3) := by decide +kernel
theorem dX12_checks_141 : decode cX12_checks 141 = .ok (.aload_n 0, 1) := by decide +kernel
theorem dX12_checks_142 : decode cX12_checks 142 = .ok (.getfield 10, 3) := by decide +kernel
theorem dX12_checks_145 : decode cX12_checks 145 = .ok (.sipush 1562, 3) := by decide +kernel
theorem dX12_checks_148 : decode cX12_checks 148 = .ok (.iaload, 1) := by decide +kernel
theorem dX12_checks_149 : decode cX12_checks 149 = .ok (.ifCond .eq 7, 3) := by decide +kernel
theorem dX12_checks_152 : decode cX12_checks 152 = .ok (.iconst 1, 1) := by decide +kernel
theorem dX12_checks_153 : decode cX12_checks 153 = .ok (.goto 4, 3) := by decide +kernel
theorem dX12_checks_156 : decode cX12_checks 156 = .ok (.iconst 0, 1) := by decide +kernel
theorem dX12_checks_157 : decode cX12_checks 157 = .ok (.istore_n 3, 1) := by decide +kernel
theorem dX12_checks_158 : decode cX12_checks 158 = .ok (.iinc 4 1, 3) := by decide +kernel
theorem dX12_checks_161 : decode cX12_checks 161 = .ok (.goto (-49), 3) := by decide +kernel
theorem dX12_checks_164 : decode cX12_checks 164 = .ok (.return_, 1) := by decide +kernel
set_option maxRecDepth 20000 in
theorem ggX12_isWell_X12_checks : GoodIn wsX12_isWell wsX12_checks := goodIn_r _ [7, 8, 1, 9, 10, 2, 11, 12, 13, 6, 14, 15, 16, 17, 18, 19, 20, 21, 22, 23, 24, 25, 26, 27, 28, 29, 30, 31, 32, 33, 34, 35, 36, 37, 38, 39, 40, 41, 42, 43, 44, 45, 46, 47, 48, 49, 50, 51, 52, 53, 54, 55, 56, 57, 58, 59, 60, 61, 62, 63, 64, 65, 66, 67, 68, 69, 70, 71, 72, 73, 74, 75, 76, 77, 78, 79, 80, 81, 82, 83, 84, 85, 86, 87, 88, 89, 90, 91, 92, 93, 94, 95, 96, 97, 98, 99, 100, 101, 102, 103, 104, 105, 106, 107, 108, 109, 110, 111, 112, 113, 114, 115, 116, 117, 118, 119, 120, 121, 122, 123, 124, 125, 126, 127, 128, 129, 130, 131, 132, 133, 134, 135, 136, 137, 138, 139, 140, 141, 142, 143, 144, 145, 146, 147, 148, 149, 150, 151, 152, 153, 154, 155, 156, 157, 158, 159, 160, 161, 162, 163, 164, 165, 166, 167, 168, 169, 170, 171, 172, 173, 174, 175, 176, 177, 178, 179, 180, 181, 182, 183, 184, 185, 186, 187, 188, 189, 190, 191, 192, 193, 194, 195, 196, 197, 198, 199, 200, 201, 202, 203, 204, 205, 206, 207, 208, 209, 210, 211, 212, 213, 214, 215, 216, 217, 218, 219, 220, 221, 222, 223, 224, 225, 226, 227, 228] (by decide +kernel) (by decide +kernel)
set_option maxRecDepth 20000 in
theorem gX12_isWell_X12_checks : GoodIn wsX12_isWell (wsV RX12 233 RX12 yX12_checks wsX12_checks) := goodIn_app (goodIn_of _ (by decide +kernel)) ggX12_isWell_X12_checks
theorem dX12_isWell_0 : decode cX12_isWell 0 = .ok (.aload_n 0, 1) := by decide +kernel
theorem dX12_isWell_1 : decode cX12_isWell 1 = .ok (.iload_n 1, 1) := by decide +kernel
theorem dX12_isWell_2 : decode cX12_isWell 2 = .ok (.invokevirtual 233, 3) := by decide +kernel
theorem dX12_isWell_5 : decode cX12_isWell 5 = .ok (.aload_n 0, 1) := by decide +kernel
theorem dX12_isWell_6 : decode cX12_isWell 6 = .ok (.getfield 206, 3) := by decide +kernel
theorem dX12_isWell_9 : decode cX12_isWell 9 = .ok (.ifCond .ne 14, 3) := by decide +kernel
theorem dX12_isWell_12 : decode cX12_isWell 12 = .ok (.aload_n 0, 1) := by decide +kernel
theorem dX12_isWell_13 : decode cX12_isWell 13 = .ok (.getfield 194, 3) := by decide +kernel
theorem dX12_isWell_16 : decode cX12_isWell 16 = .ok (.ifCond .ne 7, 3) := by decide +kernel
theorem dX12_isWell_19 : decode cX12_isWell 19 = .ok (.iconst 1, 1) := by decide +kernel
theorem dX12_isWell_20 : decode cX12_isWell 20 = .ok (.goto 4, 3) := by decide +kernel
theorem dX12_isWell_23 : decode cX12_isWell 23 = .ok (.iconst 0, 1) := by decide +kernel
theorem dX12_isWell_24 : decode cX12_isWell 24 = .ok (.ireturn, 1) := by decide +kernel
theorem dX12_isLetter_0 : decode cX12_isLetter 0 = .ok (.iload_n 0, 1) := by decide +kernel
theorem dX12_isLetter_1 : decode cX12_isLetter 1 = .ok (.bipush 97, 2) := by decide +kernel
theorem dX12_isLetter_3 : decode cX12_isLetter 3 = .ok (.if_icmp .lt 13, 3) := by decide +kernel
theorem dX12_isLetter_6 : decode cX12_isLetter 6 = .ok (.iload_n 0, 1) := by decide +kernel
theorem dX12_isLetter_7 : decode cX12_isLetter 7 = .ok (.bipush 122, 2) := by decide +kernel
theorem dX12_isLetter_9 : decode cX12_isLetter 9 = .ok (.if_icmp .gt 7, 3) := by decide +kernel
theorem dX12_isLetter_12 : decode cX12_isLetter 12 = .ok (.iconst 1, 1) := by decide +kernel
theorem dX12_isLetter_13 : decode cX12_isLetter 13 = .ok (.goto 4, 3) := by decide +kernel
theorem dX12_isLetter_16 : decode cX12_isLetter 16 = .ok (.iconst 0, 1) := by decide +kernel
theorem dX12_isLetter_17 : decode cX12_isLetter 17 = .ok (.ireturn, 1) := by decide +kernel
theorem dX12_byteAt_0 : decode cX12_byteAt 0 = .ok (.iload_n 1, 1) := by decide +kernel
theorem dX12_byteAt_1 : decode cX12_byteAt 1 = .ok (.aload_n 0, 1) := by decide +kernel
theorem dX12_byteAt_2 : decode cX12_byteAt 2 = .ok (.getfield 236, 3) := by decide +kernel
theorem dX12_byteAt_5 : decode cX12_byteAt 5 = .ok (.if_icmp .ge 16, 3) := by decide +kernel
theorem dX12_byteAt_8 : decode cX12_byteAt 8 = .ok (.aload_n 0, 1) := by decide +kernel
theorem dX12_byteAt_9 : decode cX12_byteAt 9 = .ok (.getfield 23, 3) := by decide +kernel
theorem dX12_byteAt_12 : decode cX12_byteAt 12 = .ok (.iload_n 1, 1) := by decide +kernel
theorem dX12_byteAt_13 : decode cX12_byteAt 13 = .ok (.iaload, 1) := by decide +kernel
theorem dX12_byteAt_14 : decode cX12_byteAt 14 = .ok (.sipush 255, 3) := by decide +kernel
theorem dX12_byteAt_17 : decode cX12_byteAt 17 = .ok (.iand, 1) := by decide +kernel
theorem dX12_byteAt_18 : decode cX12_byteAt 18 = .ok (.goto 4, 3) := by decide +kernel
theorem dX12_byteAt_21 : decode cX12_byteAt 21 = .ok (.iconst 0, 1) := by decide +kernel
theorem dX12_byteAt_22 : decode cX12_byteAt 22 = .ok (.ireturn, 1) := by decide +kernel
set_option maxRecDepth 20000 in
theorem ggX12_wordFrom_X12_byteAt : GoodIn wsX12_wordFrom wsX12_byteAt := goodIn_r _ [6, 7, 8, 9, 10, 11, 12, 13, 14, 15, 16, 17, 18, 19, 20, 21, 22, 23, 24, 25, 26, 27, 28, 29, 30, 31, 32, 33, 34, 35, 36, 37, 38, 39, 40, 41, 42, 43, 44, 45, 46, 47, 48, 49, 50, 51, 52, 53, 54, 55, 56, 57, 58, 59] (by decide +kernel) (by decide +kernel)
set_option maxRecDepth 20000 in
theorem gX12_wordFrom_X12_byteAt : GoodIn wsX12_wordFrom (wsV RX12 243 RX12 yX12_byteAt wsX12_byteAt) := goodIn_app (goodIn_of _ (by decide +kernel)) ggX12_wordFrom_X12_byteAt
theorem dX12_wordFrom_0 : decode cX12_wordFrom 0 = .ok (.iconst 0, 1) := by decide +kernel
theorem dX12_wordFrom_1 : decode cX12_wordFrom 1 = .ok (.istore_n 3, 1) := by decide +kernel
theorem dX12_wordFrom_2 : decode cX12_wordFrom 2 = .ok (.iload_n 1, 1) := by decide +kernel
theorem dX12_wordFrom_3 : decode cX12_wordFrom 3 = .ok (.istore 4, 2) := by decide +kernel
theorem dX12_wordFrom_5 : decode cX12_wordFrom 5 = .ok (.iconst 1, 1) := by decide +kernel
theorem dX12_wordFrom_6 : decode cX12_wordFrom 6 = .ok (.istore 5, 2) := by decide +kernel
theorem dX12_wordFrom_8 : decode cX12_wordFrom 8 = .ok (.iconst 0, 1) := by decide +kernel
theorem dX12_wordFrom_9 : decode cX12_wordFrom 9 = .ok (.istore 6, 2) := by decide +kernel
theorem dX12_wordFrom_11 : decode cX12_wordFrom 11 = .ok (.iload 6, 2) := by decide +kernel
theorem dX12_wordFrom_13 : decode cX12_wordFrom 13 = .ok (.getstatic 239, 3) := by decide +kernel
theorem dX12_wordFrom_16 : decode cX12_wordFrom 16 = .ok (.arraylength, 1) := by decide +kernel
theorem dX12_wordFrom_17 : decode cX12_wordFrom 17 = .ok (.if_icmp .ge 81, 3) := by decide +kernel
theorem dX12_wordFrom_20 : decode cX12_wordFrom 20 = .ok (.getstatic 239, 3) := by decide +kernel
theorem dX12_wordFrom_23 : decode cX12_wordFrom 23 = .ok (.iload 6, 2) := by decide +kernel
theorem dX12_wordFrom_25 : decode cX12_wordFrom 25 = .ok (.baload, 1) := by decide +kernel
theorem dX12_wordFrom_26 : decode cX12_wordFrom 26 = .ok (.bipush 32, 2) := by decide +kernel
theorem dX12_wordFrom_28 : decode cX12_wordFrom 28 = .ok (.if_icmp .ne 28, 3) := by decide +kernel
theorem dX12_wordFrom_31 : decode cX12_wordFrom 31 = .ok (.iload 5, 2) := by decide +kernel
theorem dX12_wordFrom_33 : decode cX12_wordFrom 33 = .ok (.ifCond .eq 11, 3) := by decide +kernel
theorem dX12_wordFrom_36 : decode cX12_wordFrom 36 = .ok (.iload 4, 2) := by decide +kernel
theorem dX12_wordFrom_38 : decode cX12_wordFrom 38 = .ok (.iload_n 2, 1) := by decide +kernel
theorem dX12_wordFrom_39 : decode cX12_wordFrom 39 = .ok (.if_icmp .ne 5, 3) := by decide +kernel
theorem dX12_wordFrom_42 : decode cX12_wordFrom 42 = .ok (.iload_n 3, 1) := by decide +kernel
theorem dX12_wordFrom_43 : decode cX12_wordFrom 43 = .ok (.ireturn, 1) := by decide +kernel
theorem dX12_wordFrom_44 : decode cX12_wordFrom 44 = .ok (.iinc 3 1, 3) := by decide +kernel
theorem dX12_wordFrom_47 : decode cX12_wordFrom 47 = .ok (.iload_n 1, 1) := by decide +kernel
theorem dX12_wordFrom_48 : decode cX12_wordFrom 48 = .ok (.istore 4, 2) := by decide +kernel
theorem dX12_wordFrom_50 : decode cX12_wordFrom 50 = .ok (.iconst 1, 1) := by decide +kernel
theorem dX12_wordFrom_51 : decode cX12_wordFrom 51 = .ok (.istore 5, 2) := by decide +kernel
theorem dX12_wordFrom_53 : decode cX12_wordFrom 53 = .ok (.goto 39, 3) := by decide +kernel
theorem dX12_wordFrom_56 : decode cX12_wordFrom 56 = .ok (.iload 5, 2) := by decide +kernel
theorem dX12_wordFrom_58 : decode cX12_wordFrom 58 = .ok (.ifCond .eq 28, 3) := by decide +kernel
theorem dX12_wordFrom_61 : decode cX12_wordFrom 61 = .ok (.iload 4, 2) := by decide +kernel
theorem dX12_wordFrom_63 : decode cX12_wordFrom 63 = .ok (.iload_n 2, 1) := by decide +kernel
theorem dX12_wordFrom_64 : decode cX12_wordFrom 64 = .ok (.if_icmp .ge 22, 3) := by decide +kernel
theorem dX12_wordFrom_67 : decode cX12_wordFrom 67 = .ok (.aload_n 0, 1) := by decide +kernel
theorem dX12_wordFrom_68 : decode cX12_wordFrom 68 = .ok (.iload 4, 2) := by decide +kernel
theorem dX12_wordFrom_70 : decode cX12_wordFrom 70 = .ok (.invokevirtual 243, 3) := by decide +kernel
theorem dX12_wordFrom_73 : decode cX12_wordFrom 73 = .ok (.getstatic 239, 3) := by decide +kernel
theorem dX12_wordFrom_76 : decode cX12_wordFrom 76 = .ok (.iload 6, 2) := by decide +kernel
theorem dX12_wordFrom_78 : decode cX12_wordFrom 78 = .ok (.baload, 1) := by decide +kernel
theorem dX12_wordFrom_79 : decode cX12_wordFrom 79 = .ok (.if_icmp .ne 7, 3) := by decide +kernel
theorem dX12_wordFrom_82 : decode cX12_wordFrom 82 = .ok (.iconst 1, 1) := by decide +kernel
theorem dX12_wordFrom_83 : decode cX12_wordFrom 83 = .ok (.goto 4, 3) := by decide +kernel
theorem dX12_wordFrom_86 : decode cX12_wordFrom 86 = .ok (.iconst 0, 1) := by decide +kernel
theorem dX12_wordFrom_87 : decode cX12_wordFrom 87 = .ok (.istore 5, 2) := by decide +kernel
theorem dX12_wordFrom_89 : decode cX12_wordFrom 89 = .ok (.iinc 4 1, 3) := by decide +kernel
theorem dX12_wordFrom_92 : decode cX12_wordFrom 92 = .ok (.iinc 6 1, 3) := by decide +kernel
theorem dX12_wordFrom_95 : decode cX12_wordFrom 95 = .ok (.goto (-84), 3) := by decide +kernel
theorem dX12_wordFrom_98 : decode cX12_wordFrom 98 = .ok (.iconst (-1), 1) := by decide +kernel
theorem dX12_wordFrom_99 : decode cX12_wordFrom 99 = .ok (.ireturn, 1) := by decide +kernel
set_option maxRecDepth 20000 in
theorem ggX12_go_X12_byteAt : GoodIn wsX12_go wsX12_byteAt := goodIn_r _ [11, 2, 12, 21, 22, 23, 24, 25, 26, 27, 28, 29, 30, 31, 32, 33, 34, 35, 36, 37, 38, 39, 40, 41, 42, 43, 44, 45, 46, 47, 48, 49, 50, 51, 52, 53, 54, 55, 56, 57, 58, 59, 60, 61, 62, 63, 64, 65, 66, 67, 68, 69, 70, 71] (by decide +kernel) (by decide +kernel)
set_option maxRecDepth 20000 in
theorem gX12_go_X12_byteAt : GoodIn wsX12_go (wsV RX12 243 RX12 yX12_byteAt wsX12_byteAt) := goodIn_app (goodIn_of _ (by decide +kernel)) ggX12_go_X12_byteAt
set_option maxRecDepth 20000 in
theorem ggX12_go_X12_isLetter : GoodIn wsX12_go wsX12_isLetter := goodIn_r _ [15] (by decide +kernel) (by decide +kernel)
set_option maxRecDepth 20000 in
theorem gX12_go_X12_isLetter : GoodIn wsX12_go (va_wsS RX12 261 yX12_isLetter wsX12_isLetter) := goodIn_app (goodIn_of _ (by decide +kernel)) ggX12_go_X12_isLetter
set_option maxRecDepth 20000 in
theorem ggX12_go_X12_wordFrom : GoodIn wsX12_go wsX12_wordFrom := goodIn_r _ [19, 20, 7, 8, 9, 10, 11, 2, 12, 21, 22, 23, 24, 25, 26, 27, 28, 29, 30, 31, 32, 33, 34, 35, 36, 37, 38, 39, 40, 41, 42, 43, 44, 45, 46, 47, 48, 49, 50, 51, 52, 53, 54, 55, 56, 57, 58, 59, 60, 61, 62, 63, 64, 65, 66, 67, 68, 69, 70, 71] (by decide +kernel) (by decide +kernel)
set_option maxRecDepth 20000 in
theorem gX12_go_X12_wordFrom : GoodIn wsX12_go (wsV RX12 264 RX12 yX12_wordFrom wsX12_wordFrom) := goodIn_app (goodIn_of _ (by decide +kernel)) ggX12_go_X12_wordFrom
theorem dX12_go_0 : decode cX12_go 0 = .ok (.aload_n 0, 1) := by decide +kernel
theorem dX12_go_1 : decode cX12_go 1 = .ok (.getfield 246, 3) := by decide +kernel
theorem dX12_go_4 : decode cX12_go 4 = .ok (.aload_n 0, 1) := by decide +kernel
theorem dX12_go_5 : decode cX12_go 5 = .ok (.getfield 236, 3) := by decide +kernel
theorem dX12_go_8 : decode cX12_go 8 = .ok (.if_icmp .ge 42, 3) := by decide +kernel
theorem dX12_go_11 : decode cX12_go 11 = .ok (.aload_n 0, 1) := by decide +kernel
theorem dX12_go_12 : decode cX12_go 12 = .ok (.aload_n 0, 1) := by decide +kernel
theorem dX12_go_13 : decode cX12_go 13 = .ok (.getfield 246, 3) := by decide +kernel
theorem dX12_go_16 : decode cX12_go 16 = .ok (.invokevirtual 243, 3) := by decide +kernel
theorem dX12_go_19 : decode cX12_go 19 = .ok (.bipush 32, 2) := by decide +kernel
theorem dX12_go_21 : decode cX12_go 21 = .ok (.if_icmp .eq 16, 3) := by decide +kernel
theorem dX12_go_24 : decode cX12_go 24 = .ok (.aload_n 0, 1) := by decide +kernel
theorem dX12_go_25 : decode cX12_go 25 = .ok (.aload_n 0, 1) := by decide +kernel
theorem dX12_go_26 : decode cX12_go 26 = .ok (.getfield 246, 3) := by decide +kernel
theorem dX12_go_29 : decode cX12_go 29 = .ok (.invokevirtual 243, 3) := by decide +kernel
theorem dX12_go_32 : decode cX12_go 32 = .ok (.bipush 10, 2) := by decide +kernel
theorem dX12_go_34 : decode cX12_go 34 = .ok (.if_icmp .ne 16, 3) := by decide +kernel
theorem dX12_go_37 : decode cX12_go 37 = .ok (.aload_n 0, 1) := by decide +kernel
theorem dX12_go_38 : decode cX12_go 38 = .ok (.dup, 1) := by decide +kernel
theorem dX12_go_39 : decode cX12_go 39 = .ok (.getfield 246, 3) := by decide +kernel
theorem dX12_go_42 : decode cX12_go 42 = .ok (.iconst 1, 1) := by decide +kernel
theorem dX12_go_43 : decode cX12_go 43 = .ok (.iadd, 1) := by decide +kernel
theorem dX12_go_44 : decode cX12_go 44 = .ok (.putfield 246, 3) := by decide +kernel
theorem dX12_go_47 : decode cX12_go 47 = .ok (.goto (-47), 3) := by decide +kernel
theorem dX12_go_50 : decode cX12_go 50 = .ok (.aload_n 0, 1) := by decide +kernel
theorem dX12_go_51 : decode cX12_go 51 = .ok (.aload_n 0, 1) := by decide +kernel
theorem dX12_go_52 : decode cX12_go 52 = .ok (.getfield 246, 3) := by decide +kernel
theorem dX12_go_55 : decode cX12_go 55 = .ok (.putfield 249, 3) := by decide +kernel
theorem dX12_go_58 : decode cX12_go 58 = .ok (.aload_n 0, 1) := by decide +kernel
theorem dX12_go_59 : decode cX12_go 59 = .ok (.aload_n 0, 1) := by decide +kernel
theorem dX12_go_60 : decode cX12_go 60 = .ok (.getfield 246, 3) := by decide +kernel
theorem dX12_go_63 : decode cX12_go 63 = .ok (.invokevirtual 243, 3) := by decide +kernel
theorem dX12_go_66 : decode cX12_go 66 = .ok (.istore_n 1, 1) := by decide +kernel
theorem dX12_go_67 : decode cX12_go 67 = .ok (.aload_n 0, 1) := by decide +kernel
theorem dX12_go_68 : decode cX12_go 68 = .ok (.iconst (-1), 1) := by decide +kernel
theorem dX12_go_69 : decode cX12_go 69 = .ok (.putfield 252, 3) := by decide +kernel
theorem dX12_go_72 : decode cX12_go 72 = .ok (.aload_n 0, 1) := by decide +kernel
theorem dX12_go_73 : decode cX12_go 73 = .ok (.iconst 0, 1) := by decide +kernel
theorem dX12_go_74 : decode cX12_go 74 = .ok (.putfield 255, 3) := by decide +kernel
theorem dX12_go_77 : decode cX12_go 77 = .ok (.aload_n 0, 1) := by decide +kernel
theorem dX12_go_78 : decode cX12_go 78 = .ok (.getfield 246, 3) := by decide +kernel
theorem dX12_go_81 : decode cX12_go 81 = .ok (.aload_n 0, 1) := by decide +kernel
theorem dX12_go_82 : decode cX12_go 82 = .ok (.getfield 236, 3) := by decide +kernel
theorem dX12_go_85 : decode cX12_go 85 = .ok (.if_icmp .lt 11, 3) := by decide +kernel
theorem dX12_go_88 : decode cX12_go 88 = .ok (.aload_n 0, 1) := by decide +kernel
theorem dX12_go_89 : decode cX12_go 89 = .ok (.iconst 0, 1) := by decide +kernel
theorem dX12_go_90 : decode cX12_go 90 = .ok (.putfield 258, 3) := by decide +kernel
theorem dX12_go_93 : decode cX12_go 93 = .ok (.goto 198, 3) := by decide +kernel
theorem dX12_go_96 : decode cX12_go 96 = .ok (.iload_n 1, 1) := by decide +kernel
theorem dX12_go_97 : decode cX12_go 97 = .ok (.invokestatic 261, 3) := by decide +kernel
theorem dX12_go_100 : decode cX12_go 100 = .ok (.ifCond .eq 54, 3) := by decide +kernel
theorem dX12_go_103 : decode cX12_go 103 = .ok (.aload_n 0, 1) := by decide +kernel
theorem dX12_go_104 : decode cX12_go 104 = .ok (.aload_n 0, 1) := by decide +kernel
theorem dX12_go_105 : decode cX12_go 105 = .ok (.getfield 246, 3) := by decide +kernel
theorem dX12_go_108 : decode cX12_go 108 = .ok (.invokevirtual 243, 3) := by decide +kernel
theorem dX12_go_111 : decode cX12_go 111 = .ok (.invokestatic 261, 3) := by decide +kernel
theorem dX12_go_114 : decode cX12_go 114 = .ok (.ifCond .eq 16, 3) := by decide +kernel
theorem dX12_go_117 : decode cX12_go 117 = .ok (.aload_n 0, 1) := by decide +kernel
theorem dX12_go_118 : decode cX12_go 118 = .ok (.dup, 1) := by decide +kernel
theorem dX12_go_119 : decode cX12_go 119 = .ok (.getfield 246, 3) := by decide +kernel
theorem dX12_go_122 : decode cX12_go 122 = .ok (.iconst 1, 1) := by decide +kernel
theorem dX12_go_123 : decode cX12_go 123 = .ok (.iadd, 1) := by decide +kernel
theorem dX12_go_124 : decode cX12_go 124 = .ok (.putfield 246, 3) := by decide +kernel
theorem dX12_go_127 : decode cX12_go 127 = .ok (.goto (-24), 3) := by decide +kernel
theorem dX12_go_130 : decode cX12_go 130 = .ok (.aload_n 0, 1) := by decide +kernel
theorem dX12_go_131 : decode cX12_go 131 = .ok (.iconst 1, 1) := by decide +kernel
theorem dX12_go_132 : decode cX12_go 132 = .ok (.putfield 258, 3) := by decide +kernel
theorem dX12_go_135 : decode cX12_go 135 = .ok (.aload_n 0, 1) := by decide +kernel
theorem dX12_go_136 : decode cX12_go 136 = .ok (.aload_n 0, 1) := by decide +kernel
theorem dX12_go_137 : decode cX12_go 137 = .ok (.aload_n 0, 1) := by decide +kernel
theorem dX12_go_138 : decode cX12_go 138 = .ok (.getfield 249, 3) := by decide +kernel
theorem dX12_go_141 : decode cX12_go 141 = .ok (.aload_n 0, 1) := by decide +kernel
theorem dX12_go_142 : decode cX12_go 142 = .ok (.getfield 246, 3) := by decide +kernel
theorem dX12_go_145 : decode cX12_go 145 = .ok (.invokevirtual 264, 3) := by decide +kernel
theorem dX12_go_148 : decode cX12_go 148 = .ok (.putfield 252, 3) := by decide +kernel
theorem dX12_go_151 : decode cX12_go 151 = .ok (.goto 140, 3) := by decide +kernel
theorem dX12_go_154 : decode cX12_go 154 = .ok (.iload_n 1, 1) := by decide +kernel
theorem dX12_go_155 : decode cX12_go 155 = .ok (.bipush 48, 2) := by decide +kernel
theorem dX12_go_157 : decode cX12_go 157 = .ok (.if_icmp .lt 98, 3) := by decide +kernel
theorem dX12_go_160 : decode cX12_go 160 = .ok (.iload_n 1, 1) := by decide +kernel
theorem dX12_go_161 : decode cX12_go 161 = .ok (.bipush 57, 2) := by decide +kernel
theorem dX12_go_163 : decode cX12_go 163 = .ok (.if_icmp .gt 92, 3) := by decide +kernel
theorem dX12_go_166 : decode cX12_go 166 = .ok (.aload_n 0, 1) := by decide +kernel
theorem dX12_go_167 : decode cX12_go 167 = .ok (.aload_n 0, 1) := by decide +kernel
theorem dX12_go_168 : decode cX12_go 168 = .ok (.getfield 246, 3) := by decide +kernel
theorem dX12_go_171 : decode cX12_go 171 = .ok (.invokevirtual 243, 3) := by decide +kernel
theorem dX12_go_174 : decode cX12_go 174 = .ok (.bipush 48, 2) := by decide +kernel
theorem dX12_go_176 : decode cX12_go 176 = .ok (.if_icmp .lt 71, 3) := by decide +kernel
theorem dX12_go_179 : decode cX12_go 179 = .ok (.aload_n 0, 1) := by decide +kernel
theorem dX12_go_180 : decode cX12_go 180 = .ok (.aload_n 0, 1) := by decide +kernel
theorem dX12_go_181 : decode cX12_go 181 = .ok (.getfield 246, 3) := by decide +kernel
theorem dX12_go_184 : decode cX12_go 184 = .ok (.invokevirtual 243, 3) := by decide +kernel
theorem dX12_go_187 : decode cX12_go 187 = .ok (.bipush 57, 2) := by decide +kernel
theorem dX12_go_189 : decode cX12_go 189 = .ok (.if_icmp .gt 58, 3) := by decide +kernel
theorem dX12_go_192 : decode cX12_go 192 = .ok (.aload_n 0, 1) := by decide +kernel
theorem dX12_go_193 : decode cX12_go 193 = .ok (.aload_n 0, 1) := by decide +kernel
theorem dX12_go_194 : decode cX12_go 194 = .ok (.getfield 246, 3) := by decide +kernel
theorem dX12_go_197 : decode cX12_go 197 = .ok (.aload_n 0, 1) := by decide +kernel
theorem dX12_go_198 : decode cX12_go 198 = .ok (.getfield 249, 3) := by decide +kernel
theorem dX12_go_201 : decode cX12_go 201 = .ok (.isub, 1) := by decide +kernel
theorem dX12_go_202 : decode cX12_go 202 = .ok (.iconst 3, 1) := by decide +kernel
theorem dX12_go_203 : decode cX12_go 203 = .ok (.if_icmp .ge 25, 3) := by decide +kernel
theorem dX12_go_206 : decode cX12_go 206 = .ok (.bipush 10, 2) := by decide +kernel
theorem dX12_go_208 : decode cX12_go 208 = .ok (.aload_n 0, 1) := by decide +kernel
theorem dX12_go_209 : decode cX12_go 209 = .ok (.getfield 255, 3) := by decide +kernel
theorem dX12_go_212 : decode cX12_go 212 = .ok (.imul, 1) := by decide +kernel
theorem dX12_go_213 : decode cX12_go 213 = .ok (.aload_n 0, 1) := by decide +kernel
theorem dX12_go_214 : decode cX12_go 214 = .ok (.aload_n 0, 1) := by decide +kernel
theorem dX12_go_215 : decode cX12_go 215 = .ok (.getfield 246, 3) := by decide +kernel
theorem dX12_go_218 : decode cX12_go 218 = .ok (.invokevirtual 243, 3) := by decide +kernel
theorem dX12_go_221 : decode cX12_go 221 = .ok (.iadd, 1) := by decide +kernel
theorem dX12_go_222 : decode cX12_go 222 = .ok (.bipush 48, 2) := by decide +kernel
theorem dX12_go_224 : decode cX12_go 224 = .ok (.isub, 1) := by decide +kernel
theorem dX12_go_225 : decode cX12_go 225 = .ok (.goto 6, 3) := by decide +kernel
theorem dX12_go_228 : decode cX12_go 228 = .ok (.sipush 9999, 3) := by decide +kernel
theorem dX12_go_231 : decode cX12_go 231 = .ok (.putfield 255, 3) := by decide +kernel
theorem dX12_go_234 : decode cX12_go 234 = .ok (.aload_n 0, 1) := by decide +kernel
theorem dX12_go_235 : decode cX12_go 235 = .ok (.dup, 1) := by decide +kernel
theorem dX12_go_236 : decode cX12_go 236 = .ok (.getfield 246, 3) := by decide +kernel
theorem dX12_go_239 : decode cX12_go 239 = .ok (.iconst 1, 1) := by decide +kernel
theorem dX12_go_240 : decode cX12_go 240 = .ok (.iadd, 1) := by decide +kernel
theorem dX12_go_241 : decode cX12_go 241 = .ok (.putfield 246, 3) := by decide +kernel
theorem dX12_go_244 : decode cX12_go 244 = .ok (.goto (-78), 3) := by decide +kernel
theorem dX12_go_247 : decode cX12_go 247 = .ok (.aload_n 0, 1) := by decide +kernel
theorem dX12_go_248 : decode cX12_go 248 = .ok (.iconst 2, 1) := by decide +kernel
theorem dX12_go_249 : decode cX12_go 249 = .ok (.putfield 258, 3) := by decide +kernel
theorem dX12_go_252 : decode cX12_go 252 = .ok (.goto 39, 3) := by decide +kernel
theorem dX12_go_255 : decode cX12_go 255 = .ok (.aload_n 0, 1) := by decide +kernel
theorem dX12_go_256 : decode cX12_go 256 = .ok (.dup, 1) := by decide +kernel
theorem dX12_go_257 : decode cX12_go 257 = .ok (.getfield 246, 3) := by decide +kernel
theorem dX12_go_260 : decode cX12_go 260 = .ok (.iconst 1, 1) := by decide +kernel
theorem dX12_go_261 : decode cX12_go 261 = .ok (.iadd, 1) := by decide +kernel
theorem dX12_go_262 : decode cX12_go 262 = .ok (.putfield 246, 3) := by decide +kernel
theorem dX12_go_265 : decode cX12_go 265 = .ok (.aload_n 0, 1) := by decide +kernel
theorem dX12_go_266 : decode cX12_go 266 = .ok (.iload_n 1, 1) := by decide +kernel
theorem dX12_go_267 : decode cX12_go 267 = .ok (.bipush 59, 2) := by decide +kernel
theorem dX12_go_269 : decode cX12_go 269 = .ok (.if_icmp .eq 9, 3) := by decide +kernel
theorem dX12_go_272 : decode cX12_go 272 = .ok (.iload_n 1, 1) := by decide +kernel
theorem dX12_go_273 : decode cX12_go 273 = .ok (.bipush 44, 2) := by decide +kernel
theorem dX12_go_275 : decode cX12_go 275 = .ok (.if_icmp .ne 7, 3) := by decide +kernel
theorem dX12_go_278 : decode cX12_go 278 = .ok (.iconst 3, 1) := by decide +kernel
theorem dX12_go_279 : decode cX12_go 279 = .ok (.goto 4, 3) := by decide +kernel
theorem dX12_go_282 : decode cX12_go 282 = .ok (.iconst 4, 1) := by decide +kernel
theorem dX12_go_283 : decode cX12_go 283 = .ok (.putfield 258, 3) := by decide +kernel
theorem dX12_go_286 : decode cX12_go 286 = .ok (.aload_n 0, 1) := by decide +kernel
theorem dX12_go_287 : decode cX12_go 287 = .ok (.iload_n 1, 1) := by decide +kernel
theorem dX12_go_288 : decode cX12_go 288 = .ok (.putfield 255, 3) := by decide +kernel
theorem dX12_go_291 : decode cX12_go 291 = .ok (.return_, 1) := by decide +kernel
theorem dX12_wants_0 : decode cX12_wants 0 = .ok (.aload_n 0, 1) := by decide +kernel
theorem dX12_wants_1 : decode cX12_wants 1 = .ok (.getfield 267, 3) := by decide +kernel
theorem dX12_wants_4 : decode cX12_wants 4 = .ok (.ifCond .ne 20, 3) := by decide +kernel
theorem dX12_wants_7 : decode cX12_wants 7 = .ok (.iload_n 1, 1) := by decide +kernel
theorem dX12_wants_8 : decode cX12_wants 8 = .ok (.ifCond .ne 16, 3) := by decide +kernel
theorem dX12_wants_11 : decode cX12_wants 11 = .ok (.aload_n 0, 1) := by decide +kernel
theorem dX12_wants_12 : decode cX12_wants 12 = .ok (.iload_n 2, 1) := by decide +kernel
theorem dX12_wants_13 : decode cX12_wants 13 = .ok (.putfield 267, 3) := by decide +kernel
theorem dX12_wants_16 : decode cX12_wants 16 = .ok (.aload_n 0, 1) := by decide +kernel
theorem dX12_wants_17 : decode cX12_wants 17 = .ok (.aload_n 0, 1) := by decide +kernel
theorem dX12_wants_18 : decode cX12_wants 18 = .ok (.getfield 249, 3) := by decide +kernel
theorem dX12_wants_21 : decode cX12_wants 21 = .ok (.putfield 26, 3) := by decide +kernel
theorem dX12_wants_24 : decode cX12_wants 24 = .ok (.aload_n 0, 1) := by decide +kernel
theorem dX12_wants_25 : decode cX12_wants 25 = .ok (.getfield 267, 3) := by decide +kernel
theorem dX12_wants_28 : decode cX12_wants 28 = .ok (.ifCond .ne 7, 3) := by decide +kernel
theorem dX12_wants_31 : decode cX12_wants 31 = .ok (.iconst 1, 1) := by decide +kernel
theorem dX12_wants_32 : decode cX12_wants 32 = .ok (.goto 4, 3) := by decide +kernel
theorem dX12_wants_35 : decode cX12_wants 35 = .ok (.iconst 0, 1) := by decide +kernel
theorem dX12_wants_36 : decode cX12_wants 36 = .ok (.ireturn, 1) := by decide +kernel
set_option maxRecDepth 20000 in
theorem ggX12_numberHere_X12_wants : GoodIn wsX12_numberHere wsX12_wants := goodIn_r _ [7, 8, 9, 10, 34, 35, 36, 37, 38, 39, 40, 41, 42, 43, 44, 45, 46, 47, 48, 49, 50, 51, 52, 53, 54, 55, 56, 57, 58, 59, 60, 61, 62, 63, 64, 65, 66, 67, 68, 69, 70, 71, 72, 73, 74, 75, 76, 77, 78, 79, 80, 81, 82, 83, 84] (by decide +kernel) (by decide +kernel)
set_option maxRecDepth 20000 in
theorem gX12_numberHere_X12_wants : GoodIn wsX12_numberHere (wsV RX12 270 RX12 yX12_wants wsX12_wants) := goodIn_app (goodIn_of _ (by decide +kernel)) ggX12_numberHere_X12_wants
set_option maxRecDepth 20000 in
theorem ggX12_numberHere_X12_within : GoodIn wsX12_numberHere wsX12_within := goodIn_r _ [13] (by decide +kernel) (by decide +kernel)
set_option maxRecDepth 20000 in
theorem gX12_numberHere_X12_within : GoodIn wsX12_numberHere (va_wsS RX12 172 yX12_within wsX12_within) := goodIn_app (goodIn_of _ (by decide +kernel)) ggX12_numberHere_X12_within
set_option maxRecDepth 20000 in
theorem ggX12_numberHere_X12_go : GoodIn wsX12_numberHere wsX12_go := goodIn_r _ [17, 18, 19, 9, 20, 2, 1, 21, 22, 23, 6, 24, 25, 26, 27, 28, 29, 30, 31, 32, 33, 34, 35, 36, 37, 38, 39, 40, 41, 42, 43, 44, 45, 46, 47, 48, 49, 50, 51, 52, 53, 54, 55, 56, 57, 58, 59, 60, 61, 62, 63, 64, 65, 66, 67, 68, 69, 70, 71, 72, 73, 74, 75, 76, 77, 78, 79, 80, 81, 82, 83, 84] (by decide +kernel) (by decide +kernel)
set_option maxRecDepth 20000 in
theorem gX12_numberHere_X12_go : GoodIn wsX12_numberHere (wsV RX12 274 RX12 yX12_go wsX12_go) := goodIn_app (goodIn_of _ (by decide +kernel)) ggX12_numberHere_X12_go
theorem dX12_numberHere_0 : decode cX12_numberHere 0 = .ok (.aload_n 0, 1) := by decide +kernel
theorem dX12_numberHere_1 : decode cX12_numberHere 1 = .ok (.aload_n 0, 1) := by decide +kernel
theorem dX12_numberHere_2 : decode cX12_numberHere 2 = .ok (.getfield 258, 3) := by decide +kernel
theorem dX12_numberHere_5 : decode cX12_numberHere 5 = .ok (.iconst 2, 1) := by decide +kernel
theorem dX12_numberHere_6 : decode cX12_numberHere 6 = .ok (.if_icmp .ne 7, 3) := by decide +kernel
theorem dX12_numberHere_9 : decode cX12_numberHere 9 = .ok (.iconst 1, 1) := by decide +kernel
theorem dX12_numberHere_10 : decode cX12_numberHere 10 = .ok (.goto 4, 3) := by decide +kernel
theorem dX12_numberHere_13 : decode cX12_numberHere 13 = .ok (.iconst 0, 1) := by decide +kernel
theorem dX12_numberHere_14 : decode cX12_numberHere 14 = .ok (.iconst 1, 1) := by decide +kernel
theorem dX12_numberHere_15 : decode cX12_numberHere 15 = .ok (.invokevirtual 270, 3) := by decide +kernel
theorem dX12_numberHere_18 : decode cX12_numberHere 18 = .ok (.ifCond .eq 20, 3) := by decide +kernel
theorem dX12_numberHere_21 : decode cX12_numberHere 21 = .ok (.aload_n 0, 1) := by decide +kernel
theorem dX12_numberHere_22 : decode cX12_numberHere 22 = .ok (.aload_n 0, 1) := by decide +kernel
theorem dX12_numberHere_23 : decode cX12_numberHere 23 = .ok (.getfield 255, 3) := by decide +kernel
theorem dX12_numberHere_26 : decode cX12_numberHere 26 = .ok (.iload_n 1, 1) := by decide +kernel
theorem dX12_numberHere_27 : decode cX12_numberHere 27 = .ok (.iload_n 2, 1) := by decide +kernel
theorem dX12_numberHere_28 : decode cX12_numberHere 28 = .ok (.invokestatic 172, 3) := by decide +kernel
theorem dX12_numberHere_31 : decode cX12_numberHere 31 = .ok (.iconst 2, 1) := by decide +kernel
theorem dX12_numberHere_32 : decode cX12_numberHere 32 = .ok (.invokevirtual 270, 3) := by decide +kernel
theorem dX12_numberHere_35 : decode cX12_numberHere 35 = .ok (.ifCond .ne 5, 3) := by decide +kernel
theorem dX12_numberHere_38 : decode cX12_numberHere 38 = .ok (.iload_n 1, 1) := by decide +kernel
theorem dX12_numberHere_39 : decode cX12_numberHere 39 = .ok (.ireturn, 1) := by decide +kernel
theorem dX12_numberHere_40 : decode cX12_numberHere 40 = .ok (.aload_n 0, 1) := by decide +kernel
theorem dX12_numberHere_41 : decode cX12_numberHere 41 = .ok (.getfield 255, 3) := by decide +kernel
theorem dX12_numberHere_44 : decode cX12_numberHere 44 = .ok (.istore_n 3, 1) := by decide +kernel
theorem dX12_numberHere_45 : decode cX12_numberHere 45 = .ok (.aload_n 0, 1) := by decide +kernel
theorem dX12_numberHere_46 : decode cX12_numberHere 46 = .ok (.invokevirtual 274, 3) := by decide +kernel
theorem dX12_numberHere_49 : decode cX12_numberHere 49 = .ok (.iload_n 3, 1) := by decide +kernel
theorem dX12_numberHere_50 : decode cX12_numberHere 50 = .ok (.ireturn, 1) := by decide +kernel
theorem dX12_isSign_0 : decode cX12_isSign 0 = .ok (.aload_n 0, 1) := by decide +kernel
theorem dX12_isSign_1 : decode cX12_isSign 1 = .ok (.getfield 258, 3) := by decide +kernel
theorem dX12_isSign_4 : decode cX12_isSign 4 = .ok (.iconst 3, 1) := by decide +kernel
theorem dX12_isSign_5 : decode cX12_isSign 5 = .ok (.if_icmp .ne 15, 3) := by decide +kernel
theorem dX12_isSign_8 : decode cX12_isSign 8 = .ok (.aload_n 0, 1) := by decide +kernel
theorem dX12_isSign_9 : decode cX12_isSign 9 = .ok (.getfield 255, 3) := by decide +kernel
theorem dX12_isSign_12 : decode cX12_isSign 12 = .ok (.iload_n 1, 1) := by decide +kernel
theorem dX12_isSign_13 : decode cX12_isSign 13 = .ok (.if_icmp .ne 7, 3) := by decide +kernel
theorem dX12_isSign_16 : decode cX12_isSign 16 = .ok (.iconst 1, 1) := by decide +kernel
theorem dX12_isSign_17 : decode cX12_isSign 17 = .ok (.goto 4, 3) := by decide +kernel
theorem dX12_isSign_20 : decode cX12_isSign 20 = .ok (.iconst 0, 1) := by decide +kernel
theorem dX12_isSign_21 : decode cX12_isSign 21 = .ok (.ireturn, 1) := by decide +kernel
set_option maxRecDepth 20000 in
theorem ggX12_usedHere_X12_wants : GoodIn wsX12_usedHere wsX12_wants := goodIn_r _ [8, 9, 10, 11, 41, 42, 43, 44, 45, 46, 47, 48, 49, 50, 51, 52, 53, 54, 55, 56, 57, 58, 59, 60, 61, 62, 63, 64, 65, 66, 67, 68, 69, 70, 71, 72, 73, 74, 75, 76, 77, 78, 79, 80, 81, 82, 83, 84, 85, 86, 87, 88, 89, 90, 91] (by decide +kernel) (by decide +kernel)
set_option maxRecDepth 20000 in
theorem gX12_usedHere_X12_wants : GoodIn wsX12_usedHere (wsV RX12 270 RX12 yX12_wants wsX12_wants) := goodIn_app (goodIn_of _ (by decide +kernel)) ggX12_usedHere_X12_wants
set_option maxRecDepth 20000 in
theorem ggX12_usedHere_X12_within : GoodIn wsX12_usedHere wsX12_within := goodIn_r _ [14] (by decide +kernel) (by decide +kernel)
set_option maxRecDepth 20000 in
theorem gX12_usedHere_X12_within : GoodIn wsX12_usedHere (va_wsS RX12 172 yX12_within wsX12_within) := goodIn_app (goodIn_of _ (by decide +kernel)) ggX12_usedHere_X12_within
set_option maxRecDepth 20000 in
theorem ggX12_usedHere_X12_isUsed : GoodIn wsX12_usedHere wsX12_isUsed := goodIn_r _ [17, 18, 19, 7, 20] (by decide +kernel) (by decide +kernel)
set_option maxRecDepth 20000 in
theorem gX12_usedHere_X12_isUsed : GoodIn wsX12_usedHere (va_wsS RX12 83 yX12_isUsed wsX12_isUsed) := goodIn_app (goodIn_of _ (by decide +kernel)) ggX12_usedHere_X12_isUsed
set_option maxRecDepth 20000 in
theorem ggX12_usedHere_X12_block : GoodIn wsX12_usedHere wsX12_block := goodIn_r _ [20] (by decide +kernel) (by decide +kernel)
set_option maxRecDepth 20000 in
theorem gX12_usedHere_X12_block : GoodIn wsX12_usedHere (va_wsS RX12 76 yX12_block wsX12_block) := goodIn_app (goodIn_of _ (by decide +kernel)) ggX12_usedHere_X12_block
set_option maxRecDepth 20000 in
theorem ggX12_usedHere_X12_go : GoodIn wsX12_usedHere wsX12_go := goodIn_r _ [24, 25, 26, 10, 27, 2, 1, 28, 29, 30, 7, 31, 32, 33, 34, 35, 36, 37, 38, 39, 40, 41, 42, 43, 44, 45, 46, 47, 48, 49, 50, 51, 52, 53, 54, 55, 56, 57, 58, 59, 60, 61, 62, 63, 64, 65, 66, 67, 68, 69, 70, 71, 72, 73, 74, 75, 76, 77, 78, 79, 80, 81, 82, 83, 84, 85, 86, 87, 88, 89, 90, 91] (by decide +kernel) (by decide +kernel)
set_option maxRecDepth 20000 in
theorem gX12_usedHere_X12_go : GoodIn wsX12_usedHere (wsV RX12 274 RX12 yX12_go wsX12_go) := goodIn_app (goodIn_of _ (by decide +kernel)) ggX12_usedHere_X12_go
theorem dX12_usedHere_0 : decode cX12_usedHere 0 = .ok (.aload_n 0, 1) := by decide +kernel
theorem dX12_usedHere_1 : decode cX12_usedHere 1 = .ok (.aload_n 0, 1) := by decide +kernel
theorem dX12_usedHere_2 : decode cX12_usedHere 2 = .ok (.getfield 258, 3) := by decide +kernel
theorem dX12_usedHere_5 : decode cX12_usedHere 5 = .ok (.iconst 2, 1) := by decide +kernel
theorem dX12_usedHere_6 : decode cX12_usedHere 6 = .ok (.if_icmp .ne 7, 3) := by decide +kernel
theorem dX12_usedHere_9 : decode cX12_usedHere 9 = .ok (.iconst 1, 1) := by decide +kernel
theorem dX12_usedHere_10 : decode cX12_usedHere 10 = .ok (.goto 4, 3) := by decide +kernel
theorem dX12_usedHere_13 : decode cX12_usedHere 13 = .ok (.iconst 0, 1) := by decide +kernel
theorem dX12_usedHere_14 : decode cX12_usedHere 14 = .ok (.iconst 1, 1) := by decide +kernel
theorem dX12_usedHere_15 : decode cX12_usedHere 15 = .ok (.invokevirtual 270, 3) := by decide +kernel
theorem dX12_usedHere_18 : decode cX12_usedHere 18 = .ok (.ifCond .eq 48, 3) := by decide +kernel
theorem dX12_usedHere_21 : decode cX12_usedHere 21 = .ok (.aload_n 0, 1) := by decide +kernel
theorem dX12_usedHere_22 : decode cX12_usedHere 22 = .ok (.aload_n 0, 1) := by decide +kernel
theorem dX12_usedHere_23 : decode cX12_usedHere 23 = .ok (.getfield 255, 3) := by decide +kernel
theorem dX12_usedHere_26 : decode cX12_usedHere 26 = .ok (.iconst 0, 1) := by decide +kernel
theorem dX12_usedHere_27 : decode cX12_usedHere 27 = .ok (.bipush 9, 2) := by decide +kernel
theorem dX12_usedHere_29 : decode cX12_usedHere 29 = .ok (.invokestatic 172, 3) := by decide +kernel
theorem dX12_usedHere_32 : decode cX12_usedHere 32 = .ok (.iconst 2, 1) := by decide +kernel
theorem dX12_usedHere_33 : decode cX12_usedHere 33 = .ok (.invokevirtual 270, 3) := by decide +kernel
theorem dX12_usedHere_36 : decode cX12_usedHere 36 = .ok (.ifCond .eq 30, 3) := by decide +kernel
theorem dX12_usedHere_39 : decode cX12_usedHere 39 = .ok (.aload_n 0, 1) := by decide +kernel
theorem dX12_usedHere_40 : decode cX12_usedHere 40 = .ok (.aload_n 0, 1) := by decide +kernel
theorem dX12_usedHere_41 : decode cX12_usedHere 41 = .ok (.getfield 51, 3) := by decide +kernel
theorem dX12_usedHere_44 : decode cX12_usedHere 44 = .ok (.aload_n 0, 1) := by decide +kernel
theorem dX12_usedHere_45 : decode cX12_usedHere 45 = .ok (.getfield 255, 3) := by decide +kernel
theorem dX12_usedHere_48 : decode cX12_usedHere 48 = .ok (.invokestatic 83, 3) := by decide +kernel
theorem dX12_usedHere_51 : decode cX12_usedHere 51 = .ok (.ifCond .ne 7, 3) := by decide +kernel
theorem dX12_usedHere_54 : decode cX12_usedHere 54 = .ok (.iconst 1, 1) := by decide +kernel
theorem dX12_usedHere_55 : decode cX12_usedHere 55 = .ok (.goto 4, 3) := by decide +kernel
theorem dX12_usedHere_58 : decode cX12_usedHere 58 = .ok (.iconst 0, 1) := by decide +kernel
theorem dX12_usedHere_59 : decode cX12_usedHere 59 = .ok (.iconst 3, 1) := by decide +kernel
theorem dX12_usedHere_60 : decode cX12_usedHere 60 = .ok (.invokevirtual 270, 3) := by decide +kernel
theorem dX12_usedHere_63 : decode cX12_usedHere 63 = .ok (.ifCond .ne 5, 3) := by decide +kernel
theorem dX12_usedHere_66 : decode cX12_usedHere 66 = .ok (.iconst 0, 1) := by decide +kernel
theorem dX12_usedHere_67 : decode cX12_usedHere 67 = .ok (.ireturn, 1) := by decide +kernel
theorem dX12_usedHere_68 : decode cX12_usedHere 68 = .ok (.aload_n 0, 1) := by decide +kernel
theorem dX12_usedHere_69 : decode cX12_usedHere 69 = .ok (.getfield 255, 3) := by decide +kernel
theorem dX12_usedHere_72 : decode cX12_usedHere 72 = .ok (.istore_n 1, 1) := by decide +kernel
theorem dX12_usedHere_73 : decode cX12_usedHere 73 = .ok (.aload_n 0, 1) := by decide +kernel
theorem dX12_usedHere_74 : decode cX12_usedHere 74 = .ok (.getfield 51, 3) := by decide +kernel
theorem dX12_usedHere_77 : decode cX12_usedHere 77 = .ok (.iload_n 1, 1) := by decide +kernel
theorem dX12_usedHere_78 : decode cX12_usedHere 78 = .ok (.invokestatic 76, 3) := by decide +kernel
theorem dX12_usedHere_81 : decode cX12_usedHere 81 = .ok (.iconst 1, 1) := by decide +kernel
theorem dX12_usedHere_82 : decode cX12_usedHere 82 = .ok (.iastore, 1) := by decide +kernel
theorem dX12_usedHere_83 : decode cX12_usedHere 83 = .ok (.aload_n 0, 1) := by decide +kernel
theorem dX12_usedHere_84 : decode cX12_usedHere 84 = .ok (.invokevirtual 274, 3) := by decide +kernel
theorem dX12_usedHere_87 : decode cX12_usedHere 87 = .ok (.iload_n 1, 1) := by decide +kernel
theorem dX12_usedHere_88 : decode cX12_usedHere 88 = .ok (.ireturn, 1) := by decide +kernel
set_option maxRecDepth 20000 in
theorem ggX12_chain1_X12_go : GoodIn wsX12_chain1 wsX12_go := goodIn_r _ [10, 11, 12, 13, 14, 2, 1, 15, 16, 17, 9, 18, 19, 20, 21, 22, 23, 24, 25, 26, 27, 46, 47, 48, 49, 50, 51, 52, 53, 54, 55, 56, 57, 58, 59, 60, 61, 62, 63, 64, 65, 66, 67, 68, 69, 70, 71, 72, 73, 74, 75, 76, 77, 78, 79, 80, 81, 82, 83, 84, 85, 86, 87, 88, 89, 90, 91, 92, 93, 94, 95, 96] (by decide +kernel) (by decide +kernel)
set_option maxRecDepth 20000 in
theorem gX12_chain1_X12_go : GoodIn wsX12_chain1 (wsV RX12 274 RX12 yX12_go wsX12_go) := goodIn_app (goodIn_of _ (by decide +kernel)) ggX12_chain1_X12_go
set_option maxRecDepth 20000 in
theorem ggX12_chain1_X12_wants : GoodIn wsX12_chain1 wsX12_wants := goodIn_r _ [31, 4, 13, 32, 46, 47, 48, 49, 50, 51, 52, 53, 54, 55, 56, 57, 58, 59, 60, 61, 62, 63, 64, 65, 66, 67, 68, 69, 70, 71, 72, 73, 74, 75, 76, 77, 78, 79, 80, 81, 82, 83, 84, 85, 86, 87, 88, 89, 90, 91, 92, 93, 94, 95, 96] (by decide +kernel) (by decide +kernel)
set_option maxRecDepth 20000 in
theorem gX12_chain1_X12_wants : GoodIn wsX12_chain1 (wsV RX12 270 RX12 yX12_wants wsX12_wants) := goodIn_app (goodIn_of _ (by decide +kernel)) ggX12_chain1_X12_wants
set_option maxRecDepth 20000 in
theorem ggX12_chain1_X12_within : GoodIn wsX12_chain1 wsX12_within := goodIn_r _ [35] (by decide +kernel) (by decide +kernel)
set_option maxRecDepth 20000 in
theorem gX12_chain1_X12_within : GoodIn wsX12_chain1 (va_wsS RX12 172 yX12_within wsX12_within) := goodIn_app (goodIn_of _ (by decide +kernel)) ggX12_chain1_X12_within
set_option maxRecDepth 20000 in
theorem ggX12_chain1_X12_usedHere : GoodIn wsX12_chain1 wsX12_usedHere := goodIn_r _ [39, 1, 2, 5, 28, 29, 30, 9, 31, 4, 13, 32, 33, 34, 35, 40, 41, 42, 43, 44, 45, 6, 7, 8, 10, 11, 12, 14, 15, 16, 17, 18, 19, 20, 21, 22, 23, 24, 25, 26, 27, 46, 47, 48, 49, 50, 51, 52, 53, 54, 55, 56, 57, 58, 59, 60, 61, 62, 63, 64, 65, 66, 67, 68, 69, 70, 71, 72, 73, 74, 75, 76, 77, 78, 79, 80, 81, 82, 83, 84, 85, 86, 87, 88, 89, 90, 91, 92, 93, 94, 95, 96] (by decide +kernel) (by decide +kernel)
set_option maxRecDepth 20000 in
theorem gX12_chain1_X12_usedHere : GoodIn wsX12_chain1 (wsV RX12 280 RX12 yX12_usedHere wsX12_usedHere) := goodIn_app (goodIn_of _ (by decide +kernel)) ggX12_chain1_X12_usedHere
set_option maxRecDepth 20000 in
theorem ggX12_chain1_X12_block : GoodIn wsX12_chain1 wsX12_block := goodIn_r _ [45] (by decide +kernel) (by decide +kernel)
set_option maxRecDepth 20000 in
theorem gX12_chain1_X12_block : GoodIn wsX12_chain1 (va_wsS RX12 76 yX12_block wsX12_block) := goodIn_app (goodIn_of _ (by decide +kernel)) ggX12_chain1_X12_block
theorem dX12_chain1_0 : decode cX12_chain1 0 = .ok (.aload_n 0, 1) := by decide +kernel
theorem dX12_chain1_1 : decode cX12_chain1 1 = .ok (.invokevirtual 274, 3) := by decide +kernel
theorem dX12_chain1_4 : decode cX12_chain1 4 = .ok (.aload_n 0, 1) := by decide +kernel
theorem dX12_chain1_5 : decode cX12_chain1 5 = .ok (.aload_n 0, 1) := by decide +kernel
theorem dX12_chain1_6 : decode cX12_chain1 6 = .ok (.getfield 258, 3) := by decide +kernel
theorem dX12_chain1_9 : decode cX12_chain1 9 = .ok (.iconst 2, 1) := by decide +kernel
theorem dX12_chain1_10 : decode cX12_chain1 10 = .ok (.if_icmp .ne 7, 3) := by decide +kernel
theorem dX12_chain1_13 : decode cX12_chain1 13 = .ok (.iconst 1, 1) := by decide +kernel
theorem dX12_chain1_14 : decode cX12_chain1 14 = .ok (.goto 4, 3) := by decide +kernel
theorem dX12_chain1_17 : decode cX12_chain1 17 = .ok (.iconst 0, 1) := by decide +kernel
theorem dX12_chain1_18 : decode cX12_chain1 18 = .ok (.iconst 1, 1) := by decide +kernel
theorem dX12_chain1_19 : decode cX12_chain1 19 = .ok (.invokevirtual 270, 3) := by decide +kernel
theorem dX12_chain1_22 : decode cX12_chain1 22 = .ok (.ifCond .eq 47, 3) := by decide +kernel
theorem dX12_chain1_25 : decode cX12_chain1 25 = .ok (.aload_n 0, 1) := by decide +kernel
theorem dX12_chain1_26 : decode cX12_chain1 26 = .ok (.aload_n 0, 1) := by decide +kernel
theorem dX12_chain1_27 : decode cX12_chain1 27 = .ok (.getfield 255, 3) := by decide +kernel
theorem dX12_chain1_30 : decode cX12_chain1 30 = .ok (.iconst 0, 1) := by decide +kernel
theorem dX12_chain1_31 : decode cX12_chain1 31 = .ok (.iconst 3, 1) := by decide +kernel
theorem dX12_chain1_32 : decode cX12_chain1 32 = .ok (.invokestatic 172, 3) := by decide +kernel
theorem dX12_chain1_35 : decode cX12_chain1 35 = .ok (.iconst 2, 1) := by decide +kernel
theorem dX12_chain1_36 : decode cX12_chain1 36 = .ok (.invokevirtual 270, 3) := by decide +kernel
theorem dX12_chain1_39 : decode cX12_chain1 39 = .ok (.ifCond .eq 30, 3) := by decide +kernel
theorem dX12_chain1_42 : decode cX12_chain1 42 = .ok (.aload_n 0, 1) := by decide +kernel
theorem dX12_chain1_43 : decode cX12_chain1 43 = .ok (.aload_n 0, 1) := by decide +kernel
theorem dX12_chain1_44 : decode cX12_chain1 44 = .ok (.getfield 277, 3) := by decide +kernel
theorem dX12_chain1_47 : decode cX12_chain1 47 = .ok (.aload_n 0, 1) := by decide +kernel
theorem dX12_chain1_48 : decode cX12_chain1 48 = .ok (.getfield 255, 3) := by decide +kernel
theorem dX12_chain1_51 : decode cX12_chain1 51 = .ok (.ishr, 1) := by decide +kernel
theorem dX12_chain1_52 : decode cX12_chain1 52 = .ok (.iconst 1, 1) := by decide +kernel
theorem dX12_chain1_53 : decode cX12_chain1 53 = .ok (.iand, 1) := by decide +kernel
theorem dX12_chain1_54 : decode cX12_chain1 54 = .ok (.ifCond .ne 7, 3) := by decide +kernel
theorem dX12_chain1_57 : decode cX12_chain1 57 = .ok (.iconst 1, 1) := by decide +kernel
theorem dX12_chain1_58 : decode cX12_chain1 58 = .ok (.goto 4, 3) := by decide +kernel
theorem dX12_chain1_61 : decode cX12_chain1 61 = .ok (.iconst 0, 1) := by decide +kernel
theorem dX12_chain1_62 : decode cX12_chain1 62 = .ok (.iconst 4, 1) := by decide +kernel
theorem dX12_chain1_63 : decode cX12_chain1 63 = .ok (.invokevirtual 270, 3) := by decide +kernel
theorem dX12_chain1_66 : decode cX12_chain1 66 = .ok (.ifCond .ne 4, 3) := by decide +kernel
theorem dX12_chain1_69 : decode cX12_chain1 69 = .ok (.return_, 1) := by decide +kernel
theorem dX12_chain1_70 : decode cX12_chain1 70 = .ok (.aload_n 0, 1) := by decide +kernel
theorem dX12_chain1_71 : decode cX12_chain1 71 = .ok (.dup, 1) := by decide +kernel
theorem dX12_chain1_72 : decode cX12_chain1 72 = .ok (.getfield 277, 3) := by decide +kernel
theorem dX12_chain1_75 : decode cX12_chain1 75 = .ok (.iconst 1, 1) := by decide +kernel
theorem dX12_chain1_76 : decode cX12_chain1 76 = .ok (.aload_n 0, 1) := by decide +kernel
theorem dX12_chain1_77 : decode cX12_chain1 77 = .ok (.getfield 255, 3) := by decide +kernel
theorem dX12_chain1_80 : decode cX12_chain1 80 = .ok (.ishl, 1) := by decide +kernel
theorem dX12_chain1_81 : decode cX12_chain1 81 = .ok (.ior, 1) := by decide +kernel
theorem dX12_chain1_82 : decode cX12_chain1 82 = .ok (.putfield 277, 3) := by decide +kernel
theorem dX12_chain1_85 : decode cX12_chain1 85 = .ok (.bipush 20, 2) := by decide +kernel
theorem dX12_chain1_87 : decode cX12_chain1 87 = .ok (.aload_n 0, 1) := by decide +kernel
theorem dX12_chain1_88 : decode cX12_chain1 88 = .ok (.getfield 255, 3) := by decide +kernel
theorem dX12_chain1_91 : decode cX12_chain1 91 = .ok (.iadd, 1) := by decide +kernel
theorem dX12_chain1_92 : decode cX12_chain1 92 = .ok (.istore_n 1, 1) := by decide +kernel
theorem dX12_chain1_93 : decode cX12_chain1 93 = .ok (.aload_n 0, 1) := by decide +kernel
theorem dX12_chain1_94 : decode cX12_chain1 94 = .ok (.invokevirtual 274, 3) := by decide +kernel
theorem dX12_chain1_97 : decode cX12_chain1 97 = .ok (.iconst 1, 1) := by decide +kernel
theorem dX12_chain1_98 : decode cX12_chain1 98 = .ok (.istore_n 2, 1) := by decide +kernel
theorem dX12_chain1_99 : decode cX12_chain1 99 = .ok (.iload_n 2, 1) := by decide +kernel
theorem dX12_chain1_100 : decode cX12_chain1 100 = .ok (.ifCond .eq 57, 3) := by decide +kernel
theorem dX12_chain1_103 : decode cX12_chain1 103 = .ok (.aload_n 0, 1) := by decide +kernel
theorem dX12_chain1_104 : decode cX12_chain1 104 = .ok (.getfield 267, 3) := by decide +kernel
theorem dX12_chain1_107 : decode cX12_chain1 107 = .ok (.ifCond .ne 50, 3) := by decide +kernel
theorem dX12_chain1_110 : decode cX12_chain1 110 = .ok (.aload_n 0, 1) := by decide +kernel
theorem dX12_chain1_111 : decode cX12_chain1 111 = .ok (.invokevirtual 280, 3) := by decide +kernel
theorem dX12_chain1_114 : decode cX12_chain1 114 = .ok (.istore_n 3, 1) := by decide +kernel
theorem dX12_chain1_115 : decode cX12_chain1 115 = .ok (.aload_n 0, 1) := by decide +kernel
theorem dX12_chain1_116 : decode cX12_chain1 116 = .ok (.getfield 267, 3) := by decide +kernel
theorem dX12_chain1_119 : decode cX12_chain1 119 = .ok (.ifCond .eq 4, 3) := by decide +kernel
theorem dX12_chain1_122 : decode cX12_chain1 122 = .ok (.return_, 1) := by decide +kernel
theorem dX12_chain1_123 : decode cX12_chain1 123 = .ok (.aload_n 0, 1) := by decide +kernel
theorem dX12_chain1_124 : decode cX12_chain1 124 = .ok (.getfield 51, 3) := by decide +kernel
theorem dX12_chain1_127 : decode cX12_chain1 127 = .ok (.iload_n 1, 1) := by decide +kernel
theorem dX12_chain1_128 : decode cX12_chain1 128 = .ok (.iload_n 3, 1) := by decide +kernel
theorem dX12_chain1_129 : decode cX12_chain1 129 = .ok (.invokestatic 76, 3) := by decide +kernel
theorem dX12_chain1_132 : decode cX12_chain1 132 = .ok (.iastore, 1) := by decide +kernel
theorem dX12_chain1_133 : decode cX12_chain1 133 = .ok (.iload_n 3, 1) := by decide +kernel
theorem dX12_chain1_134 : decode cX12_chain1 134 = .ok (.invokestatic 76, 3) := by decide +kernel
theorem dX12_chain1_137 : decode cX12_chain1 137 = .ok (.iconst 1, 1) := by decide +kernel
theorem dX12_chain1_138 : decode cX12_chain1 138 = .ok (.iadd, 1) := by decide +kernel
theorem dX12_chain1_139 : decode cX12_chain1 139 = .ok (.istore_n 1, 1) := by decide +kernel
theorem dX12_chain1_140 : decode cX12_chain1 140 = .ok (.aload_n 0, 1) := by decide +kernel
theorem dX12_chain1_141 : decode cX12_chain1 141 = .ok (.getfield 258, 3) := by decide +kernel
theorem dX12_chain1_144 : decode cX12_chain1 144 = .ok (.iconst 2, 1) := by decide +kernel
theorem dX12_chain1_145 : decode cX12_chain1 145 = .ok (.if_icmp .ne 7, 3) := by decide +kernel
theorem dX12_chain1_148 : decode cX12_chain1 148 = .ok (.iconst 1, 1) := by decide +kernel
theorem dX12_chain1_149 : decode cX12_chain1 149 = .ok (.goto 4, 3) := by decide +kernel
theorem dX12_chain1_152 : decode cX12_chain1 152 = .ok (.iconst 0, 1) := by decide +kernel
theorem dX12_chain1_153 : decode cX12_chain1 153 = .ok (.istore_n 2, 1) := by decide +kernel
theorem dX12_chain1_154 : decode cX12_chain1 154 = .ok (.goto (-55), 3) := by decide +kernel
theorem dX12_chain1_157 : decode cX12_chain1 157 = .ok (.return_, 1) := by decide +kernel
set_option maxRecDepth 20000 in
theorem ggX12_without1_X12_go : GoodIn wsX12_without1 wsX12_go := goodIn_r _ [9, 10, 11, 12, 3, 13, 2, 14, 15, 16, 8, 17, 18, 19, 20, 21, 22, 23, 24, 25, 26, 32, 33, 34, 35, 36, 37, 38, 39, 40, 41, 42, 43, 44, 45, 46, 47, 48, 49, 50, 51, 52, 53, 54, 55, 56, 57, 58, 59, 60, 61, 62, 63, 64, 65, 66, 67, 68, 69, 70, 71, 72, 73, 74, 75, 76, 77, 78, 79, 80, 81, 82] (by decide +kernel) (by decide +kernel)
set_option maxRecDepth 20000 in
theorem gX12_without1_X12_go : GoodIn wsX12_without1 (wsV RX12 274 RX12 yX12_go wsX12_go) := goodIn_app (goodIn_of _ (by decide +kernel)) ggX12_without1_X12_go
set_option maxRecDepth 20000 in
theorem ggX12_without1_X12_wants : GoodIn wsX12_without1 wsX12_wants := goodIn_r _ [30, 1, 12, 31, 32, 33, 34, 35, 36, 37, 38, 39, 40, 41, 42, 43, 44, 45, 46, 47, 48, 49, 50, 51, 52, 53, 54, 55, 56, 57, 58, 59, 60, 61, 62, 63, 64, 65, 66, 67, 68, 69, 70, 71, 72, 73, 74, 75, 76, 77, 78, 79, 80, 81, 82] (by decide +kernel) (by decide +kernel)
set_option maxRecDepth 20000 in
theorem gX12_without1_X12_wants : GoodIn wsX12_without1 (wsV RX12 270 RX12 yX12_wants wsX12_wants) := goodIn_app (goodIn_of _ (by decide +kernel)) ggX12_without1_X12_wants
theorem dX12_without1_0 : decode cX12_without1 0 = .ok (.aload_n 0, 1) := by decide +kernel
theorem dX12_without1_1 : decode cX12_without1 1 = .ok (.invokevirtual 274, 3) := by decide +kernel
theorem dX12_without1_4 : decode cX12_without1 4 = .ok (.iconst 1, 1) := by decide +kernel
theorem dX12_without1_5 : decode cX12_without1 5 = .ok (.istore_n 1, 1) := by decide +kernel
theorem dX12_without1_6 : decode cX12_without1 6 = .ok (.iload_n 1, 1) := by decide +kernel
theorem dX12_without1_7 : decode cX12_without1 7 = .ok (.ifCond .eq 110, 3) := by decide +kernel
theorem dX12_without1_10 : decode cX12_without1 10 = .ok (.aload_n 0, 1) := by decide +kernel
theorem dX12_without1_11 : decode cX12_without1 11 = .ok (.getfield 267, 3) := by decide +kernel
theorem dX12_without1_14 : decode cX12_without1 14 = .ok (.ifCond .ne 103, 3) := by decide +kernel
theorem dX12_without1_17 : decode cX12_without1 17 = .ok (.aload_n 0, 1) := by decide +kernel
theorem dX12_without1_18 : decode cX12_without1 18 = .ok (.aload_n 0, 1) := by decide +kernel
theorem dX12_without1_19 : decode cX12_without1 19 = .ok (.getfield 258, 3) := by decide +kernel
theorem dX12_without1_22 : decode cX12_without1 22 = .ok (.iconst 1, 1) := by decide +kernel
theorem dX12_without1_23 : decode cX12_without1 23 = .ok (.if_icmp .ne 16, 3) := by decide +kernel
theorem dX12_without1_26 : decode cX12_without1 26 = .ok (.aload_n 0, 1) := by decide +kernel
theorem dX12_without1_27 : decode cX12_without1 27 = .ok (.getfield 252, 3) := by decide +kernel
theorem dX12_without1_30 : decode cX12_without1 30 = .ok (.bipush 12, 2) := by decide +kernel
theorem dX12_without1_32 : decode cX12_without1 32 = .ok (.if_icmp .lt 7, 3) := by decide +kernel
theorem dX12_without1_35 : decode cX12_without1 35 = .ok (.iconst 1, 1) := by decide +kernel
theorem dX12_without1_36 : decode cX12_without1 36 = .ok (.goto 4, 3) := by decide +kernel
theorem dX12_without1_39 : decode cX12_without1 39 = .ok (.iconst 0, 1) := by decide +kernel
theorem dX12_without1_40 : decode cX12_without1 40 = .ok (.iconst 1, 1) := by decide +kernel
theorem dX12_without1_41 : decode cX12_without1 41 = .ok (.invokevirtual 270, 3) := by decide +kernel
theorem dX12_without1_44 : decode cX12_without1 44 = .ok (.ifCond .eq 33, 3) := by decide +kernel
theorem dX12_without1_47 : decode cX12_without1 47 = .ok (.aload_n 0, 1) := by decide +kernel
theorem dX12_without1_48 : decode cX12_without1 48 = .ok (.aload_n 0, 1) := by decide +kernel
theorem dX12_without1_49 : decode cX12_without1 49 = .ok (.getfield 283, 3) := by decide +kernel
theorem dX12_without1_52 : decode cX12_without1 52 = .ok (.aload_n 0, 1) := by decide +kernel
theorem dX12_without1_53 : decode cX12_without1 53 = .ok (.getfield 252, 3) := by decide +kernel
theorem dX12_without1_56 : decode cX12_without1 56 = .ok (.bipush 12, 2) := by decide +kernel
theorem dX12_without1_58 : decode cX12_without1 58 = .ok (.isub, 1) := by decide +kernel
theorem dX12_without1_59 : decode cX12_without1 59 = .ok (.ishr, 1) := by decide +kernel
theorem dX12_without1_60 : decode cX12_without1 60 = .ok (.iconst 1, 1) := by decide +kernel
theorem dX12_without1_61 : decode cX12_without1 61 = .ok (.iand, 1) := by decide +kernel
theorem dX12_without1_62 : decode cX12_without1 62 = .ok (.ifCond .ne 7, 3) := by decide +kernel
theorem dX12_without1_65 : decode cX12_without1 65 = .ok (.iconst 1, 1) := by decide +kernel
theorem dX12_without1_66 : decode cX12_without1 66 = .ok (.goto 4, 3) := by decide +kernel
theorem dX12_without1_69 : decode cX12_without1 69 = .ok (.iconst 0, 1) := by decide +kernel
theorem dX12_without1_70 : decode cX12_without1 70 = .ok (.iconst 4, 1) := by decide +kernel
theorem dX12_without1_71 : decode cX12_without1 71 = .ok (.invokevirtual 270, 3) := by decide +kernel
theorem dX12_without1_74 : decode cX12_without1 74 = .ok (.ifCond .ne 4, 3) := by decide +kernel
theorem dX12_without1_77 : decode cX12_without1 77 = .ok (.return_, 1) := by decide +kernel
theorem dX12_without1_78 : decode cX12_without1 78 = .ok (.aload_n 0, 1) := by decide +kernel
theorem dX12_without1_79 : decode cX12_without1 79 = .ok (.dup, 1) := by decide +kernel
theorem dX12_without1_80 : decode cX12_without1 80 = .ok (.getfield 283, 3) := by decide +kernel
theorem dX12_without1_83 : decode cX12_without1 83 = .ok (.iconst 1, 1) := by decide +kernel
theorem dX12_without1_84 : decode cX12_without1 84 = .ok (.aload_n 0, 1) := by decide +kernel
theorem dX12_without1_85 : decode cX12_without1 85 = .ok (.getfield 252, 3) := by decide +kernel
theorem dX12_without1_88 : decode cX12_without1 88 = .ok (.bipush 12, 2) := by decide +kernel
theorem dX12_without1_90 : decode cX12_without1 90 = .ok (.isub, 1) := by decide +kernel
theorem dX12_without1_91 : decode cX12_without1 91 = .ok (.ishl, 1) := by decide +kernel
theorem dX12_without1_92 : decode cX12_without1 92 = .ok (.ior, 1) := by decide +kernel
theorem dX12_without1_93 : decode cX12_without1 93 = .ok (.putfield 283, 3) := by decide +kernel
theorem dX12_without1_96 : decode cX12_without1 96 = .ok (.aload_n 0, 1) := by decide +kernel
theorem dX12_without1_97 : decode cX12_without1 97 = .ok (.invokevirtual 274, 3) := by decide +kernel
theorem dX12_without1_100 : decode cX12_without1 100 = .ok (.aload_n 0, 1) := by decide +kernel
theorem dX12_without1_101 : decode cX12_without1 101 = .ok (.getfield 258, 3) := by decide +kernel
theorem dX12_without1_104 : decode cX12_without1 104 = .ok (.iconst 1, 1) := by decide +kernel
theorem dX12_without1_105 : decode cX12_without1 105 = .ok (.if_icmp .ne 7, 3) := by decide +kernel
theorem dX12_without1_108 : decode cX12_without1 108 = .ok (.iconst 1, 1) := by decide +kernel
theorem dX12_without1_109 : decode cX12_without1 109 = .ok (.goto 4, 3) := by decide +kernel
theorem dX12_without1_112 : decode cX12_without1 112 = .ok (.iconst 0, 1) := by decide +kernel
theorem dX12_without1_113 : decode cX12_without1 113 = .ok (.istore_n 1, 1) := by decide +kernel
theorem dX12_without1_114 : decode cX12_without1 114 = .ok (.goto (-108), 3) := by decide +kernel
theorem dX12_without1_117 : decode cX12_without1 117 = .ok (.return_, 1) := by decide +kernel
set_option maxRecDepth 20000 in
theorem ggX12_data1_X12_go : GoodIn wsX12_data1 wsX12_go := goodIn_r _ [10, 11, 12, 13, 14, 2, 1, 15, 16, 17, 9, 18, 19, 20, 21, 22, 23, 24, 25, 26, 27, 43, 44, 45, 46, 47, 48, 49, 50, 51, 52, 53, 54, 55, 56, 57, 58, 59, 60, 61, 62, 63, 64, 65, 66, 67, 68, 69, 70, 71, 72, 73, 74, 75, 76, 77, 78, 79, 80, 81, 82, 83, 84, 85, 86, 87, 88, 89, 90, 91, 92, 93] (by decide +kernel) (by decide +kernel)
set_option maxRecDepth 20000 in
theorem gX12_data1_X12_go : GoodIn wsX12_data1 (wsV RX12 274 RX12 yX12_go wsX12_go) := goodIn_app (goodIn_of _ (by decide +kernel)) ggX12_data1_X12_go
set_option maxRecDepth 20000 in
theorem ggX12_data1_X12_wants : GoodIn wsX12_data1 wsX12_wants := goodIn_r _ [31, 5, 13, 32, 43, 44, 45, 46, 47, 48, 49, 50, 51, 52, 53, 54, 55, 56, 57, 58, 59, 60, 61, 62, 63, 64, 65, 66, 67, 68, 69, 70, 71, 72, 73, 74, 75, 76, 77, 78, 79, 80, 81, 82, 83, 84, 85, 86, 87, 88, 89, 90, 91, 92, 93] (by decide +kernel) (by decide +kernel)
set_option maxRecDepth 20000 in
theorem gX12_data1_X12_wants : GoodIn wsX12_data1 (wsV RX12 270 RX12 yX12_wants wsX12_wants) := goodIn_app (goodIn_of _ (by decide +kernel)) ggX12_data1_X12_wants
set_option maxRecDepth 20000 in
theorem ggX12_data1_X12_within : GoodIn wsX12_data1 wsX12_within := goodIn_r _ [35] (by decide +kernel) (by decide +kernel)
set_option maxRecDepth 20000 in
theorem gX12_data1_X12_within : GoodIn wsX12_data1 (va_wsS RX12 172 yX12_within wsX12_within) := goodIn_app (goodIn_of _ (by decide +kernel)) ggX12_data1_X12_within
set_option maxRecDepth 20000 in
theorem ggX12_data1_X12_block : GoodIn wsX12_data1 wsX12_block := goodIn_r _ [38] (by decide +kernel) (by decide +kernel)
set_option maxRecDepth 20000 in
theorem gX12_data1_X12_block : GoodIn wsX12_data1 (va_wsS RX12 76 yX12_block wsX12_block) := goodIn_app (goodIn_of _ (by decide +kernel)) ggX12_data1_X12_block
set_option maxRecDepth 20000 in
theorem ggX12_data1_X12_numberHere : GoodIn wsX12_data1 wsX12_numberHere := goodIn_r _ [42, 1, 2, 28, 29, 30, 9, 31, 5, 13, 32, 33, 34, 35, 6, 7, 8, 10, 11, 12, 14, 15, 16, 17, 18, 19, 20, 21, 22, 23, 24, 25, 26, 27, 43, 44, 45, 46, 47, 48, 49, 50, 51, 52, 53, 54, 55, 56, 57, 58, 59, 60, 61, 62, 63, 64, 65, 66, 67, 68, 69, 70, 71, 72, 73, 74, 75, 76, 77, 78, 79, 80, 81, 82, 83, 84, 85, 86, 87, 88, 89, 90, 91, 92, 93] (by decide +kernel) (by decide +kernel)
set_option maxRecDepth 20000 in
theorem gX12_data1_X12_numberHere : GoodIn wsX12_data1 (wsV RX12 289 RX12 yX12_numberHere wsX12_numberHere) := goodIn_app (goodIn_of _ (by decide +kernel)) ggX12_data1_X12_numberHere
theorem dX12_data1_0 : decode cX12_data1 0 = .ok (.aload_n 0, 1) := by decide +kernel
theorem dX12_data1_1 : decode cX12_data1 1 = .ok (.invokevirtual 274, 3) := by decide +kernel
theorem dX12_data1_4 : decode cX12_data1 4 = .ok (.aload_n 0, 1) := by decide +kernel
theorem dX12_data1_5 : decode cX12_data1 5 = .ok (.aload_n 0, 1) := by decide +kernel
theorem dX12_data1_6 : decode cX12_data1 6 = .ok (.getfield 258, 3) := by decide +kernel
theorem dX12_data1_9 : decode cX12_data1 9 = .ok (.iconst 2, 1) := by decide +kernel
theorem dX12_data1_10 : decode cX12_data1 10 = .ok (.if_icmp .ne 7, 3) := by decide +kernel
theorem dX12_data1_13 : decode cX12_data1 13 = .ok (.iconst 1, 1) := by decide +kernel
theorem dX12_data1_14 : decode cX12_data1 14 = .ok (.goto 4, 3) := by decide +kernel
theorem dX12_data1_17 : decode cX12_data1 17 = .ok (.iconst 0, 1) := by decide +kernel
theorem dX12_data1_18 : decode cX12_data1 18 = .ok (.iconst 1, 1) := by decide +kernel
theorem dX12_data1_19 : decode cX12_data1 19 = .ok (.invokevirtual 270, 3) := by decide +kernel
theorem dX12_data1_22 : decode cX12_data1 22 = .ok (.ifCond .eq 48, 3) := by decide +kernel
theorem dX12_data1_25 : decode cX12_data1 25 = .ok (.aload_n 0, 1) := by decide +kernel
theorem dX12_data1_26 : decode cX12_data1 26 = .ok (.aload_n 0, 1) := by decide +kernel
theorem dX12_data1_27 : decode cX12_data1 27 = .ok (.getfield 255, 3) := by decide +kernel
theorem dX12_data1_30 : decode cX12_data1 30 = .ok (.iconst 0, 1) := by decide +kernel
theorem dX12_data1_31 : decode cX12_data1 31 = .ok (.bipush 9, 2) := by decide +kernel
theorem dX12_data1_33 : decode cX12_data1 33 = .ok (.invokestatic 172, 3) := by decide +kernel
theorem dX12_data1_36 : decode cX12_data1 36 = .ok (.iconst 2, 1) := by decide +kernel
theorem dX12_data1_37 : decode cX12_data1 37 = .ok (.invokevirtual 270, 3) := by decide +kernel
theorem dX12_data1_40 : decode cX12_data1 40 = .ok (.ifCond .eq 30, 3) := by decide +kernel
theorem dX12_data1_43 : decode cX12_data1 43 = .ok (.aload_n 0, 1) := by decide +kernel
theorem dX12_data1_44 : decode cX12_data1 44 = .ok (.aload_n 0, 1) := by decide +kernel
theorem dX12_data1_45 : decode cX12_data1 45 = .ok (.getfield 286, 3) := by decide +kernel
theorem dX12_data1_48 : decode cX12_data1 48 = .ok (.aload_n 0, 1) := by decide +kernel
theorem dX12_data1_49 : decode cX12_data1 49 = .ok (.getfield 255, 3) := by decide +kernel
theorem dX12_data1_52 : decode cX12_data1 52 = .ok (.ishr, 1) := by decide +kernel
theorem dX12_data1_53 : decode cX12_data1 53 = .ok (.iconst 1, 1) := by decide +kernel
theorem dX12_data1_54 : decode cX12_data1 54 = .ok (.iand, 1) := by decide +kernel
theorem dX12_data1_55 : decode cX12_data1 55 = .ok (.ifCond .ne 7, 3) := by decide +kernel
theorem dX12_data1_58 : decode cX12_data1 58 = .ok (.iconst 1, 1) := by decide +kernel
theorem dX12_data1_59 : decode cX12_data1 59 = .ok (.goto 4, 3) := by decide +kernel
theorem dX12_data1_62 : decode cX12_data1 62 = .ok (.iconst 0, 1) := by decide +kernel
theorem dX12_data1_63 : decode cX12_data1 63 = .ok (.iconst 3, 1) := by decide +kernel
theorem dX12_data1_64 : decode cX12_data1 64 = .ok (.invokevirtual 270, 3) := by decide +kernel
theorem dX12_data1_67 : decode cX12_data1 67 = .ok (.ifCond .ne 4, 3) := by decide +kernel
theorem dX12_data1_70 : decode cX12_data1 70 = .ok (.return_, 1) := by decide +kernel
theorem dX12_data1_71 : decode cX12_data1 71 = .ok (.aload_n 0, 1) := by decide +kernel
theorem dX12_data1_72 : decode cX12_data1 72 = .ok (.dup, 1) := by decide +kernel
theorem dX12_data1_73 : decode cX12_data1 73 = .ok (.getfield 286, 3) := by decide +kernel
theorem dX12_data1_76 : decode cX12_data1 76 = .ok (.iconst 1, 1) := by decide +kernel
theorem dX12_data1_77 : decode cX12_data1 77 = .ok (.aload_n 0, 1) := by decide +kernel
theorem dX12_data1_78 : decode cX12_data1 78 = .ok (.getfield 255, 3) := by decide +kernel
theorem dX12_data1_81 : decode cX12_data1 81 = .ok (.ishl, 1) := by decide +kernel
theorem dX12_data1_82 : decode cX12_data1 82 = .ok (.ior, 1) := by decide +kernel
theorem dX12_data1_83 : decode cX12_data1 83 = .ok (.putfield 286, 3) := by decide +kernel
theorem dX12_data1_86 : decode cX12_data1 86 = .ok (.aload_n 0, 1) := by decide +kernel
theorem dX12_data1_87 : decode cX12_data1 87 = .ok (.getfield 255, 3) := by decide +kernel
theorem dX12_data1_90 : decode cX12_data1 90 = .ok (.invokestatic 76, 3) := by decide +kernel
theorem dX12_data1_93 : decode cX12_data1 93 = .ok (.istore_n 1, 1) := by decide +kernel
theorem dX12_data1_94 : decode cX12_data1 94 = .ok (.aload_n 0, 1) := by decide +kernel
theorem dX12_data1_95 : decode cX12_data1 95 = .ok (.invokevirtual 274, 3) := by decide +kernel
theorem dX12_data1_98 : decode cX12_data1 98 = .ok (.aload_n 0, 1) := by decide +kernel
theorem dX12_data1_99 : decode cX12_data1 99 = .ok (.getfield 51, 3) := by decide +kernel
theorem dX12_data1_102 : decode cX12_data1 102 = .ok (.iload_n 1, 1) := by decide +kernel
theorem dX12_data1_103 : decode cX12_data1 103 = .ok (.iconst 2, 1) := by decide +kernel
theorem dX12_data1_104 : decode cX12_data1 104 = .ok (.iadd, 1) := by decide +kernel
theorem dX12_data1_105 : decode cX12_data1 105 = .ok (.aload_n 0, 1) := by decide +kernel
theorem dX12_data1_106 : decode cX12_data1 106 = .ok (.iconst 0, 1) := by decide +kernel
theorem dX12_data1_107 : decode cX12_data1 107 = .ok (.bipush 99, 2) := by decide +kernel
theorem dX12_data1_109 : decode cX12_data1 109 = .ok (.invokevirtual 289, 3) := by decide +kernel
theorem dX12_data1_112 : decode cX12_data1 112 = .ok (.iastore, 1) := by decide +kernel
theorem dX12_data1_113 : decode cX12_data1 113 = .ok (.aload_n 0, 1) := by decide +kernel
theorem dX12_data1_114 : decode cX12_data1 114 = .ok (.getfield 267, 3) := by decide +kernel
theorem dX12_data1_117 : decode cX12_data1 117 = .ok (.ifCond .ne 18, 3) := by decide +kernel
theorem dX12_data1_120 : decode cX12_data1 120 = .ok (.aload_n 0, 1) := by decide +kernel
theorem dX12_data1_121 : decode cX12_data1 121 = .ok (.getfield 51, 3) := by decide +kernel
theorem dX12_data1_124 : decode cX12_data1 124 = .ok (.iload_n 1, 1) := by decide +kernel
theorem dX12_data1_125 : decode cX12_data1 125 = .ok (.iconst 3, 1) := by decide +kernel
theorem dX12_data1_126 : decode cX12_data1 126 = .ok (.iadd, 1) := by decide +kernel
theorem dX12_data1_127 : decode cX12_data1 127 = .ok (.aload_n 0, 1) := by decide +kernel
theorem dX12_data1_128 : decode cX12_data1 128 = .ok (.iconst 0, 1) := by decide +kernel
theorem dX12_data1_129 : decode cX12_data1 129 = .ok (.bipush 99, 2) := by decide +kernel
theorem dX12_data1_131 : decode cX12_data1 131 = .ok (.invokevirtual 289, 3) := by decide +kernel
theorem dX12_data1_134 : decode cX12_data1 134 = .ok (.iastore, 1) := by decide +kernel
theorem dX12_data1_135 : decode cX12_data1 135 = .ok (.return_, 1) := by decide +kernel
set_option maxRecDepth 20000 in
theorem ggX12_op1_X12_go : GoodIn wsX12_op1 wsX12_go := goodIn_r _ [10, 11, 12, 13, 1, 4, 3, 14, 15, 16, 9, 17, 18, 19, 20, 21, 22, 23, 24, 25, 26, 39, 40, 41, 42, 43, 44, 45, 46, 47, 48, 49, 50, 51, 52, 53, 54, 55, 56, 57, 58, 59, 60, 61, 62, 63, 64, 65, 66, 67, 68, 69, 70, 71, 72, 73, 74, 75, 76, 77, 78, 79, 80, 81, 82, 83, 84, 85, 86, 87, 88, 89] (by decide +kernel) (by decide +kernel)
set_option maxRecDepth 20000 in
theorem gX12_op1_X12_go : GoodIn wsX12_op1 (wsV RX12 274 RX12 yX12_go wsX12_go) := goodIn_app (goodIn_of _ (by decide +kernel)) ggX12_op1_X12_go
set_option maxRecDepth 20000 in
theorem ggX12_op1_X12_numberHere : GoodIn wsX12_op1 wsX12_numberHere := goodIn_r _ [30, 3, 4, 31, 32, 33, 9, 34, 2, 13, 35, 36, 37, 38, 6, 7, 8, 10, 11, 12, 1, 14, 15, 16, 17, 18, 19, 20, 21, 22, 23, 24, 25, 26, 39, 40, 41, 42, 43, 44, 45, 46, 47, 48, 49, 50, 51, 52, 53, 54, 55, 56, 57, 58, 59, 60, 61, 62, 63, 64, 65, 66, 67, 68, 69, 70, 71, 72, 73, 74, 75, 76, 77, 78, 79, 80, 81, 82, 83, 84, 85, 86, 87, 88, 89] (by decide +kernel) (by decide +kernel)
set_option maxRecDepth 20000 in
theorem gX12_op1_X12_numberHere : GoodIn wsX12_op1 (wsV RX12 289 RX12 yX12_numberHere wsX12_numberHere) := goodIn_app (goodIn_of _ (by decide +kernel)) ggX12_op1_X12_numberHere
set_option maxRecDepth 20000 in
theorem ggX12_op1_X12_within : GoodIn wsX12_op1 wsX12_within := goodIn_r _ [38] (by decide +kernel) (by decide +kernel)
set_option maxRecDepth 20000 in
theorem gX12_op1_X12_within : GoodIn wsX12_op1 (va_wsS RX12 172 yX12_within wsX12_within) := goodIn_app (goodIn_of _ (by decide +kernel)) ggX12_op1_X12_within
set_option maxRecDepth 20000 in
theorem ggX12_op1_X12_wants : GoodIn wsX12_op1 wsX12_wants := goodIn_r _ [34, 2, 13, 35, 39, 40, 41, 42, 43, 44, 45, 46, 47, 48, 49, 50, 51, 52, 53, 54, 55, 56, 57, 58, 59, 60, 61, 62, 63, 64, 65, 66, 67, 68, 69, 70, 71, 72, 73, 74, 75, 76, 77, 78, 79, 80, 81, 82, 83, 84, 85, 86, 87, 88, 89] (by decide +kernel) (by decide +kernel)
set_option maxRecDepth 20000 in
theorem gX12_op1_X12_wants : GoodIn wsX12_op1 (wsV RX12 270 RX12 yX12_wants wsX12_wants) := goodIn_app (goodIn_of _ (by decide +kernel)) ggX12_op1_X12_wants
theorem dX12_op1_0 : decode cX12_op1 0 = .ok (.aload_n 0, 1) := by decide +kernel
theorem dX12_op1_1 : decode cX12_op1 1 = .ok (.getfield 252, 3) := by decide +kernel
theorem dX12_op1_4 : decode cX12_op1 4 = .ok (.bipush 7, 2) := by decide +kernel
theorem dX12_op1_6 : decode cX12_op1 6 = .ok (.isub, 1) := by decide +kernel
theorem dX12_op1_7 : decode cX12_op1 7 = .ok (.istore_n 2, 1) := by decide +kernel
theorem dX12_op1_8 : decode cX12_op1 8 = .ok (.iconst 0, 1) := by decide +kernel
theorem dX12_op1_9 : decode cX12_op1 9 = .ok (.istore_n 3, 1) := by decide +kernel
theorem dX12_op1_10 : decode cX12_op1 10 = .ok (.iconst 0, 1) := by decide +kernel
theorem dX12_op1_11 : decode cX12_op1 11 = .ok (.istore 4, 2) := by decide +kernel
theorem dX12_op1_13 : decode cX12_op1 13 = .ok (.aload_n 0, 1) := by decide +kernel
theorem dX12_op1_14 : decode cX12_op1 14 = .ok (.invokevirtual 274, 3) := by decide +kernel
theorem dX12_op1_17 : decode cX12_op1 17 = .ok (.iload_n 2, 1) := by decide +kernel
theorem dX12_op1_18 : decode cX12_op1 18 = .ok (.iconst 3, 1) := by decide +kernel
theorem dX12_op1_19 : decode cX12_op1 19 = .ok (.if_icmp .ge 10, 3) := by decide +kernel
theorem dX12_op1_22 : decode cX12_op1 22 = .ok (.aload_n 0, 1) := by decide +kernel
theorem dX12_op1_23 : decode cX12_op1 23 = .ok (.iconst 0, 1) := by decide +kernel
theorem dX12_op1_24 : decode cX12_op1 24 = .ok (.iconst 3, 1) := by decide +kernel
theorem dX12_op1_25 : decode cX12_op1 25 = .ok (.invokevirtual 289, 3) := by decide +kernel
theorem dX12_op1_28 : decode cX12_op1 28 = .ok (.istore_n 3, 1) := by decide +kernel
theorem dX12_op1_29 : decode cX12_op1 29 = .ok (.iload_n 2, 1) := by decide +kernel
theorem dX12_op1_30 : decode cX12_op1 30 = .ok (.iconst 3, 1) := by decide +kernel
theorem dX12_op1_31 : decode cX12_op1 31 = .ok (.if_icmp .ne 12, 3) := by decide +kernel
theorem dX12_op1_34 : decode cX12_op1 34 = .ok (.aload_n 0, 1) := by decide +kernel
theorem dX12_op1_35 : decode cX12_op1 35 = .ok (.bipush 20, 2) := by decide +kernel
theorem dX12_op1_37 : decode cX12_op1 37 = .ok (.bipush 63, 2) := by decide +kernel
theorem dX12_op1_39 : decode cX12_op1 39 = .ok (.invokevirtual 289, 3) := by decide +kernel
theorem dX12_op1_42 : decode cX12_op1 42 = .ok (.istore_n 3, 1) := by decide +kernel
theorem dX12_op1_43 : decode cX12_op1 43 = .ok (.aload_n 0, 1) := by decide +kernel
theorem dX12_op1_44 : decode cX12_op1 44 = .ok (.getfield 267, 3) := by decide +kernel
theorem dX12_op1_47 : decode cX12_op1 47 = .ok (.ifCond .ne 65, 3) := by decide +kernel
theorem dX12_op1_50 : decode cX12_op1 50 = .ok (.iload_n 2, 1) := by decide +kernel
theorem dX12_op1_51 : decode cX12_op1 51 = .ok (.iconst 2, 1) := by decide +kernel
theorem dX12_op1_52 : decode cX12_op1 52 = .ok (.if_icmp .ne 60, 3) := by decide +kernel
theorem dX12_op1_55 : decode cX12_op1 55 = .ok (.aload_n 0, 1) := by decide +kernel
theorem dX12_op1_56 : decode cX12_op1 56 = .ok (.aload_n 0, 1) := by decide +kernel
theorem dX12_op1_57 : decode cX12_op1 57 = .ok (.getfield 258, 3) := by decide +kernel
theorem dX12_op1_60 : decode cX12_op1 60 = .ok (.iconst 2, 1) := by decide +kernel
theorem dX12_op1_61 : decode cX12_op1 61 = .ok (.if_icmp .ne 23, 3) := by decide +kernel
theorem dX12_op1_64 : decode cX12_op1 64 = .ok (.aload_n 0, 1) := by decide +kernel
theorem dX12_op1_65 : decode cX12_op1 65 = .ok (.getfield 255, 3) := by decide +kernel
theorem dX12_op1_68 : decode cX12_op1 68 = .ok (.iconst 0, 1) := by decide +kernel
theorem dX12_op1_69 : decode cX12_op1 69 = .ok (.iconst 3, 1) := by decide +kernel
theorem dX12_op1_70 : decode cX12_op1 70 = .ok (.invokestatic 172, 3) := by decide +kernel
theorem dX12_op1_73 : decode cX12_op1 73 = .ok (.ifCond .eq 11, 3) := by decide +kernel
theorem dX12_op1_76 : decode cX12_op1 76 = .ok (.aload_n 0, 1) := by decide +kernel
theorem dX12_op1_77 : decode cX12_op1 77 = .ok (.getfield 255, 3) := by decide +kernel
theorem dX12_op1_80 : decode cX12_op1 80 = .ok (.iload_n 3, 1) := by decide +kernel
theorem dX12_op1_81 : decode cX12_op1 81 = .ok (.if_icmp .eq 7, 3) := by decide +kernel
theorem dX12_op1_84 : decode cX12_op1 84 = .ok (.iconst 1, 1) := by decide +kernel
theorem dX12_op1_85 : decode cX12_op1 85 = .ok (.goto 4, 3) := by decide +kernel
theorem dX12_op1_88 : decode cX12_op1 88 = .ok (.iconst 0, 1) := by decide +kernel
theorem dX12_op1_89 : decode cX12_op1 89 = .ok (.iconst 3, 1) := by decide +kernel
theorem dX12_op1_90 : decode cX12_op1 90 = .ok (.invokevirtual 270, 3) := by decide +kernel
theorem dX12_op1_93 : decode cX12_op1 93 = .ok (.pop, 1) := by decide +kernel
theorem dX12_op1_94 : decode cX12_op1 94 = .ok (.aload_n 0, 1) := by decide +kernel
theorem dX12_op1_95 : decode cX12_op1 95 = .ok (.getfield 267, 3) := by decide +kernel
theorem dX12_op1_98 : decode cX12_op1 98 = .ok (.ifCond .ne 39, 3) := by decide +kernel
theorem dX12_op1_101 : decode cX12_op1 101 = .ok (.aload_n 0, 1) := by decide +kernel
theorem dX12_op1_102 : decode cX12_op1 102 = .ok (.iconst 0, 1) := by decide +kernel
theorem dX12_op1_103 : decode cX12_op1 103 = .ok (.iconst 3, 1) := by decide +kernel
theorem dX12_op1_104 : decode cX12_op1 104 = .ok (.invokevirtual 289, 3) := by decide +kernel
theorem dX12_op1_107 : decode cX12_op1 107 = .ok (.istore 4, 2) := by decide +kernel
theorem dX12_op1_109 : decode cX12_op1 109 = .ok (.goto 28, 3) := by decide +kernel
theorem dX12_op1_112 : decode cX12_op1 112 = .ok (.aload_n 0, 1) := by decide +kernel
theorem dX12_op1_113 : decode cX12_op1 113 = .ok (.getfield 267, 3) := by decide +kernel
theorem dX12_op1_116 : decode cX12_op1 116 = .ok (.ifCond .ne 21, 3) := by decide +kernel
theorem dX12_op1_119 : decode cX12_op1 119 = .ok (.iload_n 2, 1) := by decide +kernel
theorem dX12_op1_120 : decode cX12_op1 120 = .ok (.ifCond .eq 8, 3) := by decide +kernel
theorem dX12_op1_123 : decode cX12_op1 123 = .ok (.iload_n 2, 1) := by decide +kernel
theorem dX12_op1_124 : decode cX12_op1 124 = .ok (.iconst 3, 1) := by decide +kernel
theorem dX12_op1_125 : decode cX12_op1 125 = .ok (.if_icmp .ne 12, 3) := by decide +kernel
theorem dX12_op1_128 : decode cX12_op1 128 = .ok (.aload_n 0, 1) := by decide +kernel
theorem dX12_op1_129 : decode cX12_op1 129 = .ok (.iconst 0, 1) := by decide +kernel
theorem dX12_op1_130 : decode cX12_op1 130 = .ok (.bipush 99, 2) := by decide +kernel
theorem dX12_op1_132 : decode cX12_op1 132 = .ok (.invokevirtual 289, 3) := by decide +kernel
theorem dX12_op1_135 : decode cX12_op1 135 = .ok (.istore 4, 2) := by decide +kernel
theorem dX12_op1_137 : decode cX12_op1 137 = .ok (.aload_n 0, 1) := by decide +kernel
theorem dX12_op1_138 : decode cX12_op1 138 = .ok (.getfield 54, 3) := by decide +kernel
theorem dX12_op1_141 : decode cX12_op1 141 = .ok (.iload_n 1, 1) := by decide +kernel
theorem dX12_op1_142 : decode cX12_op1 142 = .ok (.iconst 3, 1) := by decide +kernel
theorem dX12_op1_143 : decode cX12_op1 143 = .ok (.aload_n 0, 1) := by decide +kernel
theorem dX12_op1_144 : decode cX12_op1 144 = .ok (.getfield 54, 3) := by decide +kernel
theorem dX12_op1_147 : decode cX12_op1 147 = .ok (.iload_n 1, 1) := by decide +kernel
theorem dX12_op1_148 : decode cX12_op1 148 = .ok (.iaload, 1) := by decide +kernel
theorem dX12_op1_149 : decode cX12_op1 149 = .ok (.imul, 1) := by decide +kernel
theorem dX12_op1_150 : decode cX12_op1 150 = .ok (.iadd, 1) := by decide +kernel
theorem dX12_op1_151 : decode cX12_op1 151 = .ok (.iconst 1, 1) := by decide +kernel
theorem dX12_op1_152 : decode cX12_op1 152 = .ok (.iadd, 1) := by decide +kernel
theorem dX12_op1_153 : decode cX12_op1 153 = .ok (.iload_n 2, 1) := by decide +kernel
theorem dX12_op1_154 : decode cX12_op1 154 = .ok (.iastore, 1) := by decide +kernel
theorem dX12_op1_155 : decode cX12_op1 155 = .ok (.aload_n 0, 1) := by decide +kernel
theorem dX12_op1_156 : decode cX12_op1 156 = .ok (.getfield 54, 3) := by decide +kernel
theorem dX12_op1_159 : decode cX12_op1 159 = .ok (.iload_n 1, 1) := by decide +kernel
theorem dX12_op1_160 : decode cX12_op1 160 = .ok (.iconst 3, 1) := by decide +kernel
theorem dX12_op1_161 : decode cX12_op1 161 = .ok (.aload_n 0, 1) := by decide +kernel
theorem dX12_op1_162 : decode cX12_op1 162 = .ok (.getfield 54, 3) := by decide +kernel
theorem dX12_op1_165 : decode cX12_op1 165 = .ok (.iload_n 1, 1) := by decide +kernel
theorem dX12_op1_166 : decode cX12_op1 166 = .ok (.iaload, 1) := by decide +kernel
theorem dX12_op1_167 : decode cX12_op1 167 = .ok (.imul, 1) := by decide +kernel
theorem dX12_op1_168 : decode cX12_op1 168 = .ok (.iadd, 1) := by decide +kernel
theorem dX12_op1_169 : decode cX12_op1 169 = .ok (.iconst 2, 1) := by decide +kernel
theorem dX12_op1_170 : decode cX12_op1 170 = .ok (.iadd, 1) := by decide +kernel
theorem dX12_op1_171 : decode cX12_op1 171 = .ok (.iload_n 3, 1) := by decide +kernel
theorem dX12_op1_172 : decode cX12_op1 172 = .ok (.iastore, 1) := by decide +kernel
theorem dX12_op1_173 : decode cX12_op1 173 = .ok (.aload_n 0, 1) := by decide +kernel
theorem dX12_op1_174 : decode cX12_op1 174 = .ok (.getfield 54, 3) := by decide +kernel
theorem dX12_op1_177 : decode cX12_op1 177 = .ok (.iload_n 1, 1) := by decide +kernel
theorem dX12_op1_178 : decode cX12_op1 178 = .ok (.iconst 3, 1) := by decide +kernel
theorem dX12_op1_179 : decode cX12_op1 179 = .ok (.aload_n 0, 1) := by decide +kernel
theorem dX12_op1_180 : decode cX12_op1 180 = .ok (.getfield 54, 3) := by decide +kernel
theorem dX12_op1_183 : decode cX12_op1 183 = .ok (.iload_n 1, 1) := by decide +kernel
theorem dX12_op1_184 : decode cX12_op1 184 = .ok (.iaload, 1) := by decide +kernel
theorem dX12_op1_185 : decode cX12_op1 185 = .ok (.imul, 1) := by decide +kernel
theorem dX12_op1_186 : decode cX12_op1 186 = .ok (.iadd, 1) := by decide +kernel
theorem dX12_op1_187 : decode cX12_op1 187 = .ok (.iconst 3, 1) := by decide +kernel
theorem dX12_op1_188 : decode cX12_op1 188 = .ok (.iadd, 1) := by decide +kernel
theorem dX12_op1_189 : decode cX12_op1 189 = .ok (.iload 4, 2) := by decide +kernel
theorem dX12_op1_191 : decode cX12_op1 191 = .ok (.iastore, 1) := by decide +kernel
theorem dX12_op1_192 : decode cX12_op1 192 = .ok (.aload_n 0, 1) := by decide +kernel
theorem dX12_op1_193 : decode cX12_op1 193 = .ok (.getfield 54, 3) := by decide +kernel
theorem dX12_op1_196 : decode cX12_op1 196 = .ok (.iload_n 1, 1) := by decide +kernel
theorem dX12_op1_197 : decode cX12_op1 197 = .ok (.dup2, 1) := by decide +kernel
theorem dX12_op1_198 : decode cX12_op1 198 = .ok (.iaload, 1) := by decide +kernel
theorem dX12_op1_199 : decode cX12_op1 199 = .ok (.iconst 1, 1) := by decide +kernel
theorem dX12_op1_200 : decode cX12_op1 200 = .ok (.iadd, 1) := by decide +kernel
theorem dX12_op1_201 : decode cX12_op1 201 = .ok (.iastore, 1) := by decide +kernel
theorem dX12_op1_202 : decode cX12_op1 202 = .ok (.return_, 1) := by decide +kernel
set_option maxRecDepth 20000 in
theorem ggX12_do1_X12_wants : GoodIn wsX12_do1 wsX12_wants := goodIn_r _ [10, 3, 11, 12, 48, 49, 50, 51, 52, 53, 54, 55, 56, 57, 58, 59, 60, 61, 62, 63, 64, 65, 66, 67, 68, 69, 70, 71, 72, 73, 74, 75, 76, 77, 78, 79, 80, 81, 82, 83, 84, 85, 86, 87, 88, 89, 90, 91, 92, 93, 94, 95, 96, 97, 98] (by decide +kernel) (by decide +kernel)
set_option maxRecDepth 20000 in
theorem gX12_do1_X12_wants : GoodIn wsX12_do1 (wsV RX12 270 RX12 yX12_wants wsX12_wants) := goodIn_app (goodIn_of _ (by decide +kernel)) ggX12_do1_X12_wants
set_option maxRecDepth 20000 in
theorem ggX12_do1_X12_go : GoodIn wsX12_do1 wsX12_go := goodIn_r _ [16, 17, 18, 11, 5, 19, 4, 20, 21, 22, 9, 23, 24, 25, 26, 27, 28, 29, 30, 31, 32, 48, 49, 50, 51, 52, 53, 54, 55, 56, 57, 58, 59, 60, 61, 62, 63, 64, 65, 66, 67, 68, 69, 70, 71, 72, 73, 74, 75, 76, 77, 78, 79, 80, 81, 82, 83, 84, 85, 86, 87, 88, 89, 90, 91, 92, 93, 94, 95, 96, 97, 98] (by decide +kernel) (by decide +kernel)
set_option maxRecDepth 20000 in
theorem gX12_do1_X12_go : GoodIn wsX12_do1 (wsV RX12 274 RX12 yX12_go wsX12_go) := goodIn_app (goodIn_of _ (by decide +kernel)) ggX12_do1_X12_go
set_option maxRecDepth 20000 in
theorem ggX12_do1_X12_within : GoodIn wsX12_do1 wsX12_within := goodIn_r _ [35] (by decide +kernel) (by decide +kernel)
set_option maxRecDepth 20000 in
theorem gX12_do1_X12_within : GoodIn wsX12_do1 (va_wsS RX12 172 yX12_within wsX12_within) := goodIn_app (goodIn_of _ (by decide +kernel)) ggX12_do1_X12_within
set_option maxRecDepth 20000 in
theorem ggX12_do1_X12_op1 : GoodIn wsX12_do1 wsX12_op1 := goodIn_r _ [39, 5, 3, 4, 19, 2, 13, 14, 15, 9, 16, 17, 18, 11, 20, 21, 22, 23, 24, 25, 26, 27, 28, 29, 30, 31, 32, 40, 41, 42, 43, 6, 7, 8, 10, 12, 33, 34, 35, 48, 49, 50, 51, 52, 53, 54, 55, 56, 57, 58, 59, 60, 61, 62, 63, 64, 65, 66, 67, 68, 69, 70, 71, 72, 73, 74, 75, 76, 77, 78, 79, 80, 81, 82, 83, 84, 85, 86, 87, 88, 89, 90, 91, 92, 93, 94, 95, 96, 97, 98] (by decide +kernel) (by decide +kernel)
set_option maxRecDepth 20000 in
theorem gX12_do1_X12_op1 : GoodIn wsX12_do1 (wsV RX12 295 RX12 yX12_op1 wsX12_op1) := goodIn_app (goodIn_of _ (by decide +kernel)) ggX12_do1_X12_op1
set_option maxRecDepth 20000 in
theorem ggX12_do1_X12_isSign : GoodIn wsX12_do1 wsX12_isSign := goodIn_r _ [47, 4, 19, 48, 49, 50, 51, 52, 53, 54, 55, 56, 57, 58, 59, 60, 61, 62, 63, 64, 65, 66, 67, 68, 69, 70, 71, 72, 73, 74, 75, 76, 77, 78, 79, 80, 81, 82, 83, 84, 85, 86, 87, 88, 89, 90, 91, 92, 93, 94, 95, 96, 97, 98] (by decide +kernel) (by decide +kernel)
set_option maxRecDepth 20000 in
theorem gX12_do1_X12_isSign : GoodIn wsX12_do1 (wsV RX12 298 RX12 yX12_isSign wsX12_isSign) := goodIn_app (goodIn_of _ (by decide +kernel)) ggX12_do1_X12_isSign
theorem dX12_do1_0 : decode cX12_do1 0 = .ok (.aload_n 0, 1) := by decide +kernel
theorem dX12_do1_1 : decode cX12_do1 1 = .ok (.aload_n 0, 1) := by decide +kernel
theorem dX12_do1_2 : decode cX12_do1 2 = .ok (.getfield 292, 3) := by decide +kernel
theorem dX12_do1_5 : decode cX12_do1 5 = .ok (.bipush 12, 2) := by decide +kernel
theorem dX12_do1_7 : decode cX12_do1 7 = .ok (.if_icmp .ge 7, 3) := by decide +kernel
theorem dX12_do1_10 : decode cX12_do1 10 = .ok (.iconst 1, 1) := by decide +kernel
theorem dX12_do1_11 : decode cX12_do1 11 = .ok (.goto 4, 3) := by decide +kernel
theorem dX12_do1_14 : decode cX12_do1 14 = .ok (.iconst 0, 1) := by decide +kernel
theorem dX12_do1_15 : decode cX12_do1 15 = .ok (.iconst 2, 1) := by decide +kernel
theorem dX12_do1_16 : decode cX12_do1 16 = .ok (.invokevirtual 270, 3) := by decide +kernel
theorem dX12_do1_19 : decode cX12_do1 19 = .ok (.ifCond .ne 4, 3) := by decide +kernel
theorem dX12_do1_22 : decode cX12_do1 22 = .ok (.return_, 1) := by decide +kernel
theorem dX12_do1_23 : decode cX12_do1 23 = .ok (.bipush 13, 2) := by decide +kernel
theorem dX12_do1_25 : decode cX12_do1 25 = .ok (.aload_n 0, 1) := by decide +kernel
theorem dX12_do1_26 : decode cX12_do1 26 = .ok (.getfield 292, 3) := by decide +kernel
theorem dX12_do1_29 : decode cX12_do1 29 = .ok (.imul, 1) := by decide +kernel
theorem dX12_do1_30 : decode cX12_do1 30 = .ok (.istore_n 1, 1) := by decide +kernel
theorem dX12_do1_31 : decode cX12_do1 31 = .ok (.iconst 0, 1) := by decide +kernel
theorem dX12_do1_32 : decode cX12_do1 32 = .ok (.istore_n 2, 1) := by decide +kernel
theorem dX12_do1_33 : decode cX12_do1 33 = .ok (.iload_n 2, 1) := by decide +kernel
theorem dX12_do1_34 : decode cX12_do1 34 = .ok (.bipush 13, 2) := by decide +kernel
theorem dX12_do1_36 : decode cX12_do1 36 = .ok (.if_icmp .ge 18, 3) := by decide +kernel
theorem dX12_do1_39 : decode cX12_do1 39 = .ok (.aload_n 0, 1) := by decide +kernel
theorem dX12_do1_40 : decode cX12_do1 40 = .ok (.getfield 54, 3) := by decide +kernel
theorem dX12_do1_43 : decode cX12_do1 43 = .ok (.iload_n 1, 1) := by decide +kernel
theorem dX12_do1_44 : decode cX12_do1 44 = .ok (.iload_n 2, 1) := by decide +kernel
theorem dX12_do1_45 : decode cX12_do1 45 = .ok (.iadd, 1) := by decide +kernel
theorem dX12_do1_46 : decode cX12_do1 46 = .ok (.iconst 0, 1) := by decide +kernel
