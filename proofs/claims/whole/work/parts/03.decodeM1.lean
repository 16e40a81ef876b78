theorem dX12_init_0 : decode cX12_init 0 = .ok (.aload_n 0, 1) := by decide +kernel
theorem dX12_init_1 : decode cX12_init 1 = .ok (.invokespecial 3, 3) := by decide +kernel
theorem dX12_init_4 : decode cX12_init 4 = .ok (.aload_n 0, 1) := by decide +kernel
theorem dX12_init_5 : decode cX12_init 5 = .ok (.ldc 9, 2) := by decide +kernel
theorem dX12_init_7 : decode cX12_init 7 = .ok (.newarray .int, 2) := by decide +kernel
theorem dX12_init_9 : decode cX12_init 9 = .ok (.putfield 10, 3) := by decide +kernel
theorem dX12_init_12 : decode cX12_init 12 = .ok (.aload_n 0, 1) := by decide +kernel
theorem dX12_init_13 : decode cX12_init 13 = .ok (.bipush 16, 2) := by decide +kernel
theorem dX12_init_15 : decode cX12_init 15 = .ok (.newarray .int, 2) := by decide +kernel
theorem dX12_init_17 : decode cX12_init 17 = .ok (.putfield 14, 3) := by decide +kernel
theorem dX12_init_20 : decode cX12_init 20 = .ok (.aload_n 0, 1) := by decide +kernel
theorem dX12_init_21 : decode cX12_init 21 = .ok (.bipush 16, 2) := by decide +kernel
theorem dX12_init_23 : decode cX12_init 23 = .ok (.newarray .int, 2) := by decide +kernel
theorem dX12_init_25 : decode cX12_init 25 = .ok (.putfield 17, 3) := by decide +kernel
theorem dX12_init_28 : decode cX12_init 28 = .ok (.aload_n 0, 1) := by decide +kernel
theorem dX12_init_29 : decode cX12_init 29 = .ok (.bipush 6, 2) := by decide +kernel
theorem dX12_init_31 : decode cX12_init 31 = .ok (.newarray .int, 2) := by decide +kernel
theorem dX12_init_33 : decode cX12_init 33 = .ok (.putfield 20, 3) := by decide +kernel
theorem dX12_init_36 : decode cX12_init 36 = .ok (.aload_n 0, 1) := by decide +kernel
theorem dX12_init_37 : decode cX12_init 37 = .ok (.sipush 700, 3) := by decide +kernel
theorem dX12_init_40 : decode cX12_init 40 = .ok (.newarray .int, 2) := by decide +kernel
theorem dX12_init_42 : decode cX12_init 42 = .ok (.putfield 23, 3) := by decide +kernel
theorem dX12_init_45 : decode cX12_init 45 = .ok (.aload_n 0, 1) := by decide +kernel
theorem dX12_init_46 : decode cX12_init 46 = .ok (.iconst (-1), 1) := by decide +kernel
theorem dX12_init_47 : decode cX12_init 47 = .ok (.putfield 26, 3) := by decide +kernel
theorem dX12_init_50 : decode cX12_init 50 = .ok (.aload_n 0, 1) := by decide +kernel
theorem dX12_init_51 : decode cX12_init 51 = .ok (.bipush 64, 2) := by decide +kernel
theorem dX12_init_53 : decode cX12_init 53 = .ok (.newarray .int, 2) := by decide +kernel
theorem dX12_init_55 : decode cX12_init 55 = .ok (.putfield 30, 3) := by decide +kernel
theorem dX12_init_58 : decode cX12_init 58 = .ok (.aload_n 0, 1) := by decide +kernel
theorem dX12_init_59 : decode cX12_init 59 = .ok (.bipush 64, 2) := by decide +kernel
theorem dX12_init_61 : decode cX12_init 61 = .ok (.newarray .int, 2) := by decide +kernel
theorem dX12_init_63 : decode cX12_init 63 = .ok (.putfield 33, 3) := by decide +kernel
theorem dX12_init_66 : decode cX12_init 66 = .ok (.aload_n 0, 1) := by decide +kernel
theorem dX12_init_67 : decode cX12_init 67 = .ok (.bipush 64, 2) := by decide +kernel
theorem dX12_init_69 : decode cX12_init 69 = .ok (.newarray .int, 2) := by decide +kernel
theorem dX12_init_71 : decode cX12_init 71 = .ok (.putfield 36, 3) := by decide +kernel
theorem dX12_init_74 : decode cX12_init 74 = .ok (.aload_n 0, 1) := by decide +kernel
theorem dX12_init_75 : decode cX12_init 75 = .ok (.bipush 64, 2) := by decide +kernel
theorem dX12_init_77 : decode cX12_init 77 = .ok (.newarray .int, 2) := by decide +kernel
theorem dX12_init_79 : decode cX12_init 79 = .ok (.putfield 39, 3) := by decide +kernel
theorem dX12_init_82 : decode cX12_init 82 = .ok (.aload_n 0, 1) := by decide +kernel
theorem dX12_init_83 : decode cX12_init 83 = .ok (.bipush 16, 2) := by decide +kernel
theorem dX12_init_85 : decode cX12_init 85 = .ok (.newarray .int, 2) := by decide +kernel
theorem dX12_init_87 : decode cX12_init 87 = .ok (.putfield 42, 3) := by decide +kernel
theorem dX12_init_90 : decode cX12_init 90 = .ok (.aload_n 0, 1) := by decide +kernel
theorem dX12_init_91 : decode cX12_init 91 = .ok (.bipush 64, 2) := by decide +kernel
theorem dX12_init_93 : decode cX12_init 93 = .ok (.newarray .int, 2) := by decide +kernel
theorem dX12_init_95 : decode cX12_init 95 = .ok (.putfield 45, 3) := by decide +kernel
theorem dX12_init_98 : decode cX12_init 98 = .ok (.aload_n 0, 1) := by decide +kernel
theorem dX12_init_99 : decode cX12_init 99 = .ok (.bipush 88, 2) := by decide +kernel
theorem dX12_init_101 : decode cX12_init 101 = .ok (.newarray .int, 2) := by decide +kernel
theorem dX12_init_103 : decode cX12_init 103 = .ok (.putfield 48, 3) := by decide +kernel
theorem dX12_init_106 : decode cX12_init 106 = .ok (.aload_n 0, 1) := by decide +kernel
theorem dX12_init_107 : decode cX12_init 107 = .ok (.bipush 64, 2) := by decide +kernel
theorem dX12_init_109 : decode cX12_init 109 = .ok (.newarray .int, 2) := by decide +kernel
theorem dX12_init_111 : decode cX12_init 111 = .ok (.putfield 51, 3) := by decide +kernel
theorem dX12_init_114 : decode cX12_init 114 = .ok (.aload_n 0, 1) := by decide +kernel
theorem dX12_init_115 : decode cX12_init 115 = .ok (.sipush 156, 3) := by decide +kernel
theorem dX12_init_118 : decode cX12_init 118 = .ok (.newarray .int, 2) := by decide +kernel
theorem dX12_init_120 : decode cX12_init 120 = .ok (.putfield 54, 3) := by decide +kernel
theorem dX12_init_123 : decode cX12_init 123 = .ok (.aload_n 0, 1) := by decide +kernel
theorem dX12_init_124 : decode cX12_init 124 = .ok (.sipush 2000, 3) := by decide +kernel
theorem dX12_init_127 : decode cX12_init 127 = .ok (.newarray .int, 2) := by decide +kernel
theorem dX12_init_129 : decode cX12_init 129 = .ok (.putfield 57, 3) := by decide +kernel
theorem dX12_init_132 : decode cX12_init 132 = .ok (.aload_n 0, 1) := by decide +kernel
theorem dX12_init_133 : decode cX12_init 133 = .ok (.invokevirtual 60, 3) := by decide +kernel
theorem dX12_init_136 : decode cX12_init 136 = .ok (.return_, 1) := by decide +kernel
theorem dX12_thrown_0 : decode cX12_thrown 0 = .ok (.aload_n 0, 1) := by decide +kernel
theorem dX12_thrown_1 : decode cX12_thrown 1 = .ok (.getfield 63, 3) := by decide +kernel
theorem dX12_thrown_4 : decode cX12_thrown 4 = .ok (.ireturn, 1) := by decide +kernel
theorem dX12_right_0 : decode cX12_right 0 = .ok (.aload_n 0, 1) := by decide +kernel
theorem dX12_right_1 : decode cX12_right 1 = .ok (.getfield 63, 3) := by decide +kernel
theorem dX12_right_4 : decode cX12_right 4 = .ok (.ifCond .ne 12, 3) := by decide +kernel
theorem dX12_right_7 : decode cX12_right 7 = .ok (.iload_n 1, 1) := by decide +kernel
theorem dX12_right_8 : decode cX12_right 8 = .ok (.ifCond .ne 8, 3) := by decide +kernel
theorem dX12_right_11 : decode cX12_right 11 = .ok (.aload_n 0, 1) := by decide +kernel
theorem dX12_right_12 : decode cX12_right 12 = .ok (.iload_n 2, 1) := by decide +kernel
theorem dX12_right_13 : decode cX12_right 13 = .ok (.putfield 63, 3) := by decide +kernel
theorem dX12_right_16 : decode cX12_right 16 = .ok (.aload_n 0, 1) := by decide +kernel
theorem dX12_right_17 : decode cX12_right 17 = .ok (.getfield 63, 3) := by decide +kernel
theorem dX12_right_20 : decode cX12_right 20 = .ok (.ifCond .ne 7, 3) := by decide +kernel
theorem dX12_right_23 : decode cX12_right 23 = .ok (.iconst 1, 1) := by decide +kernel
theorem dX12_right_24 : decode cX12_right 24 = .ok (.goto 4, 3) := by decide +kernel
theorem dX12_right_27 : decode cX12_right 27 = .ok (.iconst 0, 1) := by decide +kernel
theorem dX12_right_28 : decode cX12_right 28 = .ok (.ireturn, 1) := by decide +kernel
theorem dX12_within_0 : decode cX12_within 0 = .ok (.iload_n 0, 1) := by decide +kernel
theorem dX12_within_1 : decode cX12_within 1 = .ok (.iload_n 1, 1) := by decide +kernel
theorem dX12_within_2 : decode cX12_within 2 = .ok (.if_icmp .lt 12, 3) := by decide +kernel
theorem dX12_within_5 : decode cX12_within 5 = .ok (.iload_n 0, 1) := by decide +kernel
theorem dX12_within_6 : decode cX12_within 6 = .ok (.iload_n 2, 1) := by decide +kernel
theorem dX12_within_7 : decode cX12_within 7 = .ok (.if_icmp .gt 7, 3) := by decide +kernel
theorem dX12_within_10 : decode cX12_within 10 = .ok (.iconst 1, 1) := by decide +kernel
theorem dX12_within_11 : decode cX12_within 11 = .ok (.goto 4, 3) := by decide +kernel
theorem dX12_within_14 : decode cX12_within 14 = .ok (.iconst 0, 1) := by decide +kernel
theorem dX12_within_15 : decode cX12_within 15 = .ok (.ireturn, 1) := by decide +kernel
theorem dX12_copies_0 : decode cX12_copies 0 = .ok (.iconst 0, 1) := by decide +kernel
theorem dX12_copies_1 : decode cX12_copies 1 = .ok (.istore 4, 2) := by decide +kernel
theorem dX12_copies_3 : decode cX12_copies 3 = .ok (.iload 4, 2) := by decide +kernel
theorem dX12_copies_5 : decode cX12_copies 5 = .ok (.iload_n 3, 1) := by decide +kernel
theorem dX12_copies_6 : decode cX12_copies 6 = .ok (.if_icmp .ge 27, 3) := by decide +kernel
theorem dX12_copies_9 : decode cX12_copies 9 = .ok (.aload_n 0, 1) := by decide +kernel
theorem dX12_copies_10 : decode cX12_copies 10 = .ok (.getfield 10, 3) := by decide +kernel
theorem dX12_copies_13 : decode cX12_copies 13 = .ok (.iload_n 2, 1) := by decide +kernel
theorem dX12_copies_14 : decode cX12_copies 14 = .ok (.iload 4, 2) := by decide +kernel
theorem dX12_copies_16 : decode cX12_copies 16 = .ok (.iadd, 1) := by decide +kernel
theorem dX12_copies_17 : decode cX12_copies 17 = .ok (.aload_n 0, 1) := by decide +kernel
theorem dX12_copies_18 : decode cX12_copies 18 = .ok (.getfield 10, 3) := by decide +kernel
theorem dX12_copies_21 : decode cX12_copies 21 = .ok (.iload_n 1, 1) := by decide +kernel
theorem dX12_copies_22 : decode cX12_copies 22 = .ok (.iload 4, 2) := by decide +kernel
theorem dX12_copies_24 : decode cX12_copies 24 = .ok (.iadd, 1) := by decide +kernel
theorem dX12_copies_25 : decode cX12_copies 25 = .ok (.iaload, 1) := by decide +kernel
theorem dX12_copies_26 : decode cX12_copies 26 = .ok (.iastore, 1) := by decide +kernel
theorem dX12_copies_27 : decode cX12_copies 27 = .ok (.iinc 4 1, 3) := by decide +kernel
theorem dX12_copies_30 : decode cX12_copies 30 = .ok (.goto (-27), 3) := by decide +kernel
theorem dX12_copies_33 : decode cX12_copies 33 = .ok (.return_, 1) := by decide +kernel
theorem dX12_begins_0 : decode cX12_begins 0 = .ok (.iconst 0, 1) := by decide +kernel
theorem dX12_begins_1 : decode cX12_begins 1 = .ok (.istore_n 1, 1) := by decide +kernel
theorem dX12_begins_2 : decode cX12_begins 2 = .ok (.iload_n 1, 1) := by decide +kernel
theorem dX12_begins_3 : decode cX12_begins 3 = .ok (.sipush 786, 3) := by decide +kernel
theorem dX12_begins_6 : decode cX12_begins 6 = .ok (.if_icmp .ge 16, 3) := by decide +kernel
theorem dX12_begins_9 : decode cX12_begins 9 = .ok (.aload_n 0, 1) := by decide +kernel
theorem dX12_begins_10 : decode cX12_begins 10 = .ok (.getfield 10, 3) := by decide +kernel
theorem dX12_begins_13 : decode cX12_begins 13 = .ok (.iload_n 1, 1) := by decide +kernel
theorem dX12_begins_14 : decode cX12_begins 14 = .ok (.iconst 0, 1) := by decide +kernel
theorem dX12_begins_15 : decode cX12_begins 15 = .ok (.iastore, 1) := by decide +kernel
theorem dX12_begins_16 : decode cX12_begins 16 = .ok (.iinc 1 1, 3) := by decide +kernel
theorem dX12_begins_19 : decode cX12_begins 19 = .ok (.goto (-17), 3) := by decide +kernel
theorem dX12_begins_22 : decode cX12_begins 22 = .ok (.return_, 1) := by decide +kernel
theorem dX12_block_0 : decode cX12_block 0 = .ok (.bipush 24, 2) := by decide +kernel
theorem dX12_block_2 : decode cX12_block 2 = .ok (.iconst 4, 1) := by decide +kernel
theorem dX12_block_3 : decode cX12_block 3 = .ok (.iload_n 0, 1) := by decide +kernel
theorem dX12_block_4 : decode cX12_block 4 = .ok (.imul, 1) := by decide +kernel
theorem dX12_block_5 : decode cX12_block 5 = .ok (.iadd, 1) := by decide +kernel
theorem dX12_block_6 : decode cX12_block 6 = .ok (.ireturn, 1) := by decide +kernel
theorem dX12_blockAt_0 : decode cX12_blockAt 0 = .ok (.iload_n 0, 1) := by decide +kernel
theorem dX12_blockAt_1 : decode cX12_blockAt 1 = .ok (.bipush 24, 2) := by decide +kernel
theorem dX12_blockAt_3 : decode cX12_blockAt 3 = .ok (.if_icmp .lt 24, 3) := by decide +kernel
theorem dX12_blockAt_6 : decode cX12_blockAt 6 = .ok (.iload_n 0, 1) := by decide +kernel
theorem dX12_blockAt_7 : decode cX12_blockAt 7 = .ok (.bipush 64, 2) := by decide +kernel
theorem dX12_blockAt_9 : decode cX12_blockAt 9 = .ok (.if_icmp .ge 18, 3) := by decide +kernel
theorem dX12_blockAt_12 : decode cX12_blockAt 12 = .ok (.iload_n 0, 1) := by decide +kernel
theorem dX12_blockAt_13 : decode cX12_blockAt 13 = .ok (.iconst 4, 1) := by decide +kernel
theorem dX12_blockAt_14 : decode cX12_blockAt 14 = .ok (.irem, 1) := by decide +kernel
theorem dX12_blockAt_15 : decode cX12_blockAt 15 = .ok (.ifCond .ne 12, 3) := by decide +kernel
theorem dX12_blockAt_18 : decode cX12_blockAt 18 = .ok (.iload_n 0, 1) := by decide +kernel
theorem dX12_blockAt_19 : decode cX12_blockAt 19 = .ok (.bipush 24, 2) := by decide +kernel
theorem dX12_blockAt_21 : decode cX12_blockAt 21 = .ok (.isub, 1) := by decide +kernel
theorem dX12_blockAt_22 : decode cX12_blockAt 22 = .ok (.iconst 4, 1) := by decide +kernel
theorem dX12_blockAt_23 : decode cX12_blockAt 23 = .ok (.idiv, 1) := by decide +kernel
theorem dX12_blockAt_24 : decode cX12_blockAt 24 = .ok (.goto 4, 3) := by decide +kernel
theorem dX12_blockAt_27 : decode cX12_blockAt 27 = .ok (.iconst (-1), 1) := by decide +kernel
theorem dX12_blockAt_28 : decode cX12_blockAt 28 = .ok (.ireturn, 1) := by decide +kernel
theorem dX12_wordOf_0 : decode cX12_wordOf 0 = .ok (.iload_n 2, 1) := by decide +kernel
theorem dX12_wordOf_1 : decode cX12_wordOf 1 = .ok (.iconst 4, 1) := by decide +kernel
theorem dX12_wordOf_2 : decode cX12_wordOf 2 = .ok (.idiv, 1) := by decide +kernel
theorem dX12_wordOf_3 : decode cX12_wordOf 3 = .ok (.istore_n 3, 1) := by decide +kernel
theorem dX12_wordOf_4 : decode cX12_wordOf 4 = .ok (.aload_n 0, 1) := by decide +kernel
theorem dX12_wordOf_5 : decode cX12_wordOf 5 = .ok (.getfield 10, 3) := by decide +kernel
theorem dX12_wordOf_8 : decode cX12_wordOf 8 = .ok (.iload_n 1, 1) := by decide +kernel
theorem dX12_wordOf_9 : decode cX12_wordOf 9 = .ok (.iload_n 2, 1) := by decide +kernel
theorem dX12_wordOf_10 : decode cX12_wordOf 10 = .ok (.iadd, 1) := by decide +kernel
theorem dX12_wordOf_11 : decode cX12_wordOf 11 = .ok (.iaload, 1) := by decide +kernel
theorem dX12_wordOf_12 : decode cX12_wordOf 12 = .ok (.istore 4, 2) := by decide +kernel
theorem dX12_wordOf_14 : decode cX12_wordOf 14 = .ok (.iconst 0, 1) := by decide +kernel
theorem dX12_wordOf_15 : decode cX12_wordOf 15 = .ok (.istore 5, 2) := by decide +kernel
theorem dX12_wordOf_17 : decode cX12_wordOf 17 = .ok (.iload 5, 2) := by decide +kernel
theorem dX12_wordOf_19 : decode cX12_wordOf 19 = .ok (.aload_n 0, 1) := by decide +kernel
theorem dX12_wordOf_20 : decode cX12_wordOf 20 = .ok (.getfield 10, 3) := by decide +kernel
theorem dX12_wordOf_23 : decode cX12_wordOf 23 = .ok (.iload_n 1, 1) := by decide +kernel
theorem dX12_wordOf_24 : decode cX12_wordOf 24 = .ok (.bipush 64, 2) := by decide +kernel
theorem dX12_wordOf_26 : decode cX12_wordOf 26 = .ok (.iadd, 1) := by decide +kernel
theorem dX12_wordOf_27 : decode cX12_wordOf 27 = .ok (.iload_n 3, 1) := by decide +kernel
theorem dX12_wordOf_28 : decode cX12_wordOf 28 = .ok (.iadd, 1) := by decide +kernel
theorem dX12_wordOf_29 : decode cX12_wordOf 29 = .ok (.iaload, 1) := by decide +kernel
theorem dX12_wordOf_30 : decode cX12_wordOf 30 = .ok (.if_icmp .ge 55, 3) := by decide +kernel
theorem dX12_wordOf_33 : decode cX12_wordOf 33 = .ok (.aload_n 0, 1) := by decide +kernel
theorem dX12_wordOf_34 : decode cX12_wordOf 34 = .ok (.getfield 10, 3) := by decide +kernel
theorem dX12_wordOf_37 : decode cX12_wordOf 37 = .ok (.iload_n 1, 1) := by decide +kernel
theorem dX12_wordOf_38 : decode cX12_wordOf 38 = .ok (.bipush 96, 2) := by decide +kernel
theorem dX12_wordOf_40 : decode cX12_wordOf 40 = .ok (.iadd, 1) := by decide +kernel
theorem dX12_wordOf_41 : decode cX12_wordOf 41 = .ok (.bipush 12, 2) := by decide +kernel
theorem dX12_wordOf_43 : decode cX12_wordOf 43 = .ok (.iload_n 3, 1) := by decide +kernel
theorem dX12_wordOf_44 : decode cX12_wordOf 44 = .ok (.imul, 1) := by decide +kernel
theorem dX12_wordOf_45 : decode cX12_wordOf 45 = .ok (.iadd, 1) := by decide +kernel
theorem dX12_wordOf_46 : decode cX12_wordOf 46 = .ok (.iconst 2, 1) := by decide +kernel
theorem dX12_wordOf_47 : decode cX12_wordOf 47 = .ok (.iload 5, 2) := by decide +kernel
theorem dX12_wordOf_49 : decode cX12_wordOf 49 = .ok (.imul, 1) := by decide +kernel
theorem dX12_wordOf_50 : decode cX12_wordOf 50 = .ok (.iadd, 1) := by decide +kernel
theorem dX12_wordOf_51 : decode cX12_wordOf 51 = .ok (.iaload, 1) := by decide +kernel
theorem dX12_wordOf_52 : decode cX12_wordOf 52 = .ok (.iload_n 2, 1) := by decide +kernel
theorem dX12_wordOf_53 : decode cX12_wordOf 53 = .ok (.if_icmp .ne 26, 3) := by decide +kernel
theorem dX12_wordOf_56 : decode cX12_wordOf 56 = .ok (.aload_n 0, 1) := by decide +kernel
theorem dX12_wordOf_57 : decode cX12_wordOf 57 = .ok (.getfield 10, 3) := by decide +kernel
theorem dX12_wordOf_60 : decode cX12_wordOf 60 = .ok (.iload_n 1, 1) := by decide +kernel
theorem dX12_wordOf_61 : decode cX12_wordOf 61 = .ok (.bipush 96, 2) := by decide +kernel
theorem dX12_wordOf_63 : decode cX12_wordOf 63 = .ok (.iadd, 1) := by decide +kernel
theorem dX12_wordOf_64 : decode cX12_wordOf 64 = .ok (.bipush 12, 2) := by decide +kernel
theorem dX12_wordOf_66 : decode cX12_wordOf 66 = .ok (.iload_n 3, 1) := by decide +kernel
theorem dX12_wordOf_67 : decode cX12_wordOf 67 = .ok (.imul, 1) := by decide +kernel
theorem dX12_wordOf_68 : decode cX12_wordOf 68 = .ok (.iadd, 1) := by decide +kernel
theorem dX12_wordOf_69 : decode cX12_wordOf 69 = .ok (.iconst 2, 1) := by decide +kernel
theorem dX12_wordOf_70 : decode cX12_wordOf 70 = .ok (.iload 5, 2) := by decide +kernel
theorem dX12_wordOf_72 : decode cX12_wordOf 72 = .ok (.imul, 1) := by decide +kernel
theorem dX12_wordOf_73 : decode cX12_wordOf 73 = .ok (.iadd, 1) := by decide +kernel
theorem dX12_wordOf_74 : decode cX12_wordOf 74 = .ok (.iconst 1, 1) := by decide +kernel
theorem dX12_wordOf_75 : decode cX12_wordOf 75 = .ok (.iadd, 1) := by decide +kernel
theorem dX12_wordOf_76 : decode cX12_wordOf 76 = .ok (.iaload, 1) := by decide +kernel
theorem dX12_wordOf_77 : decode cX12_wordOf 77 = .ok (.istore 4, 2) := by decide +kernel
theorem dX12_wordOf_79 : decode cX12_wordOf 79 = .ok (.iinc 5 1, 3) := by decide +kernel
theorem dX12_wordOf_82 : decode cX12_wordOf 82 = .ok (.goto (-65), 3) := by decide +kernel
theorem dX12_wordOf_85 : decode cX12_wordOf 85 = .ok (.iload 4, 2) := by decide +kernel
theorem dX12_wordOf_87 : decode cX12_wordOf 87 = .ok (.ireturn, 1) := by decide +kernel
theorem dX12_reaches_0 : decode cX12_reaches 0 = .ok (.iload_n 1, 1) := by decide +kernel
theorem dX12_reaches_1 : decode cX12_reaches 1 = .ok (.bipush 96, 2) := by decide +kernel
theorem dX12_reaches_3 : decode cX12_reaches 3 = .ok (.iadd, 1) := by decide +kernel
theorem dX12_reaches_4 : decode cX12_reaches 4 = .ok (.bipush 12, 2) := by decide +kernel
theorem dX12_reaches_6 : decode cX12_reaches 6 = .ok (.iload_n 2, 1) := by decide +kernel
theorem dX12_reaches_7 : decode cX12_reaches 7 = .ok (.imul, 1) := by decide +kernel
theorem dX12_reaches_8 : decode cX12_reaches 8 = .ok (.iadd, 1) := by decide +kernel
theorem dX12_reaches_9 : decode cX12_reaches 9 = .ok (.istore 4, 2) := by decide +kernel
theorem dX12_reaches_11 : decode cX12_reaches 11 = .ok (.iconst 0, 1) := by decide +kernel
theorem dX12_reaches_12 : decode cX12_reaches 12 = .ok (.istore 5, 2) := by decide +kernel
theorem dX12_reaches_14 : decode cX12_reaches 14 = .ok (.iload 5, 2) := by decide +kernel
theorem dX12_reaches_16 : decode cX12_reaches 16 = .ok (.iload_n 3, 1) := by decide +kernel
theorem dX12_reaches_17 : decode cX12_reaches 17 = .ok (.if_icmp .ge 42, 3) := by decide +kernel
theorem dX12_reaches_20 : decode cX12_reaches 20 = .ok (.aload_n 0, 1) := by decide +kernel
theorem dX12_reaches_21 : decode cX12_reaches 21 = .ok (.getfield 10, 3) := by decide +kernel
theorem dX12_reaches_24 : decode cX12_reaches 24 = .ok (.iload_n 1, 1) := by decide +kernel
theorem dX12_reaches_25 : decode cX12_reaches 25 = .ok (.aload_n 0, 1) := by decide +kernel
theorem dX12_reaches_26 : decode cX12_reaches 26 = .ok (.getfield 10, 3) := by decide +kernel
theorem dX12_reaches_29 : decode cX12_reaches 29 = .ok (.iload 4, 2) := by decide +kernel
theorem dX12_reaches_31 : decode cX12_reaches 31 = .ok (.iconst 2, 1) := by decide +kernel
theorem dX12_reaches_32 : decode cX12_reaches 32 = .ok (.iload 5, 2) := by decide +kernel
theorem dX12_reaches_34 : decode cX12_reaches 34 = .ok (.imul, 1) := by decide +kernel
theorem dX12_reaches_35 : decode cX12_reaches 35 = .ok (.iadd, 1) := by decide +kernel
theorem dX12_reaches_36 : decode cX12_reaches 36 = .ok (.iaload, 1) := by decide +kernel
theorem dX12_reaches_37 : decode cX12_reaches 37 = .ok (.iadd, 1) := by decide +kernel
theorem dX12_reaches_38 : decode cX12_reaches 38 = .ok (.aload_n 0, 1) := by decide +kernel
theorem dX12_reaches_39 : decode cX12_reaches 39 = .ok (.getfield 10, 3) := by decide +kernel
theorem dX12_reaches_42 : decode cX12_reaches 42 = .ok (.iload 4, 2) := by decide +kernel
theorem dX12_reaches_44 : decode cX12_reaches 44 = .ok (.iconst 2, 1) := by decide +kernel
theorem dX12_reaches_45 : decode cX12_reaches 45 = .ok (.iload 5, 2) := by decide +kernel
theorem dX12_reaches_47 : decode cX12_reaches 47 = .ok (.imul, 1) := by decide +kernel
theorem dX12_reaches_48 : decode cX12_reaches 48 = .ok (.iadd, 1) := by decide +kernel
theorem dX12_reaches_49 : decode cX12_reaches 49 = .ok (.iconst 1, 1) := by decide +kernel
theorem dX12_reaches_50 : decode cX12_reaches 50 = .ok (.iadd, 1) := by decide +kernel
theorem dX12_reaches_51 : decode cX12_reaches 51 = .ok (.iaload, 1) := by decide +kernel
theorem dX12_reaches_52 : decode cX12_reaches 52 = .ok (.iastore, 1) := by decide +kernel
theorem dX12_reaches_53 : decode cX12_reaches 53 = .ok (.iinc 5 1, 3) := by decide +kernel
theorem dX12_reaches_56 : decode cX12_reaches 56 = .ok (.goto (-42), 3) := by decide +kernel
theorem dX12_reaches_59 : decode cX12_reaches 59 = .ok (.aload_n 0, 1) := by decide +kernel
theorem dX12_reaches_60 : decode cX12_reaches 60 = .ok (.getfield 10, 3) := by decide +kernel
theorem dX12_reaches_63 : decode cX12_reaches 63 = .ok (.iload_n 1, 1) := by decide +kernel
theorem dX12_reaches_64 : decode cX12_reaches 64 = .ok (.bipush 64, 2) := by decide +kernel
theorem dX12_reaches_66 : decode cX12_reaches 66 = .ok (.iadd, 1) := by decide +kernel
theorem dX12_reaches_67 : decode cX12_reaches 67 = .ok (.iload_n 2, 1) := by decide +kernel
theorem dX12_reaches_68 : decode cX12_reaches 68 = .ok (.iadd, 1) := by decide +kernel
theorem dX12_reaches_69 : decode cX12_reaches 69 = .ok (.iaload, 1) := by decide +kernel
theorem dX12_reaches_70 : decode cX12_reaches 70 = .ok (.iload_n 3, 1) := by decide +kernel
theorem dX12_reaches_71 : decode cX12_reaches 71 = .ok (.isub, 1) := by decide +kernel
theorem dX12_reaches_72 : decode cX12_reaches 72 = .ok (.istore 5, 2) := by decide +kernel
theorem dX12_reaches_74 : decode cX12_reaches 74 = .ok (.iconst 0, 1) := by decide +kernel
theorem dX12_reaches_75 : decode cX12_reaches 75 = .ok (.istore 6, 2) := by decide +kernel
theorem dX12_reaches_77 : decode cX12_reaches 77 = .ok (.iload 6, 2) := by decide +kernel
theorem dX12_reaches_79 : decode cX12_reaches 79 = .ok (.iconst 2, 1) := by decide +kernel
theorem dX12_reaches_80 : decode cX12_reaches 80 = .ok (.iload 5, 2) := by decide +kernel
theorem dX12_reaches_82 : decode cX12_reaches 82 = .ok (.imul, 1) := by decide +kernel
theorem dX12_reaches_83 : decode cX12_reaches 83 = .ok (.if_icmp .ge 33, 3) := by decide +kernel
theorem dX12_reaches_86 : decode cX12_reaches 86 = .ok (.aload_n 0, 1) := by decide +kernel
theorem dX12_reaches_87 : decode cX12_reaches 87 = .ok (.getfield 10, 3) := by decide +kernel
theorem dX12_reaches_90 : decode cX12_reaches 90 = .ok (.iload 4, 2) := by decide +kernel
theorem dX12_reaches_92 : decode cX12_reaches 92 = .ok (.iload 6, 2) := by decide +kernel
theorem dX12_reaches_94 : decode cX12_reaches 94 = .ok (.iadd, 1) := by decide +kernel
theorem dX12_reaches_95 : decode cX12_reaches 95 = .ok (.aload_n 0, 1) := by decide +kernel
theorem dX12_reaches_96 : decode cX12_reaches 96 = .ok (.getfield 10, 3) := by decide +kernel
theorem dX12_reaches_99 : decode cX12_reaches 99 = .ok (.iload 4, 2) := by decide +kernel
theorem dX12_reaches_101 : decode cX12_reaches 101 = .ok (.iconst 2, 1) := by decide +kernel
theorem dX12_reaches_102 : decode cX12_reaches 102 = .ok (.iload_n 3, 1) := by decide +kernel
theorem dX12_reaches_103 : decode cX12_reaches 103 = .ok (.imul, 1) := by decide +kernel
theorem dX12_reaches_104 : decode cX12_reaches 104 = .ok (.iadd, 1) := by decide +kernel
theorem dX12_reaches_105 : decode cX12_reaches 105 = .ok (.iload 6, 2) := by decide +kernel
theorem dX12_reaches_107 : decode cX12_reaches 107 = .ok (.iadd, 1) := by decide +kernel
theorem dX12_reaches_108 : decode cX12_reaches 108 = .ok (.iaload, 1) := by decide +kernel
theorem dX12_reaches_109 : decode cX12_reaches 109 = .ok (.iastore, 1) := by decide +kernel
theorem dX12_reaches_110 : decode cX12_reaches 110 = .ok (.iinc 6 1, 3) := by decide +kernel
theorem dX12_reaches_113 : decode cX12_reaches 113 = .ok (.goto (-36), 3) := by decide +kernel
theorem dX12_reaches_116 : decode cX12_reaches 116 = .ok (.aload_n 0, 1) := by decide +kernel
theorem dX12_reaches_117 : decode cX12_reaches 117 = .ok (.getfield 10, 3) := by decide +kernel
theorem dX12_reaches_120 : decode cX12_reaches 120 = .ok (.iload_n 1, 1) := by decide +kernel
theorem dX12_reaches_121 : decode cX12_reaches 121 = .ok (.bipush 64, 2) := by decide +kernel
theorem dX12_reaches_123 : decode cX12_reaches 123 = .ok (.iadd, 1) := by decide +kernel
theorem dX12_reaches_124 : decode cX12_reaches 124 = .ok (.iload_n 2, 1) := by decide +kernel
theorem dX12_reaches_125 : decode cX12_reaches 125 = .ok (.iadd, 1) := by decide +kernel
theorem dX12_reaches_126 : decode cX12_reaches 126 = .ok (.iload 5, 2) := by decide +kernel
theorem dX12_reaches_128 : decode cX12_reaches 128 = .ok (.iastore, 1) := by decide +kernel
theorem dX12_reaches_129 : decode cX12_reaches 129 = .ok (.aload_n 0, 1) := by decide +kernel
theorem dX12_reaches_130 : decode cX12_reaches 130 = .ok (.getfield 10, 3) := by decide +kernel
theorem dX12_reaches_133 : decode cX12_reaches 133 = .ok (.iload_n 1, 1) := by decide +kernel
theorem dX12_reaches_134 : decode cX12_reaches 134 = .ok (.bipush 80, 2) := by decide +kernel
theorem dX12_reaches_136 : decode cX12_reaches 136 = .ok (.iadd, 1) := by decide +kernel
theorem dX12_reaches_137 : decode cX12_reaches 137 = .ok (.iload_n 2, 1) := by decide +kernel
theorem dX12_reaches_138 : decode cX12_reaches 138 = .ok (.iadd, 1) := by decide +kernel
theorem dX12_reaches_139 : decode cX12_reaches 139 = .ok (.aload_n 0, 1) := by decide +kernel
theorem dX12_reaches_140 : decode cX12_reaches 140 = .ok (.getfield 10, 3) := by decide +kernel
theorem dX12_reaches_143 : decode cX12_reaches 143 = .ok (.iload_n 1, 1) := by decide +kernel
theorem dX12_reaches_144 : decode cX12_reaches 144 = .ok (.bipush 80, 2) := by decide +kernel
theorem dX12_reaches_146 : decode cX12_reaches 146 = .ok (.iadd, 1) := by decide +kernel
theorem dX12_reaches_147 : decode cX12_reaches 147 = .ok (.iload_n 2, 1) := by decide +kernel
theorem dX12_reaches_148 : decode cX12_reaches 148 = .ok (.iadd, 1) := by decide +kernel
theorem dX12_reaches_149 : decode cX12_reaches 149 = .ok (.iaload, 1) := by decide +kernel
theorem dX12_reaches_150 : decode cX12_reaches 150 = .ok (.iload_n 3, 1) := by decide +kernel
theorem dX12_reaches_151 : decode cX12_reaches 151 = .ok (.if_icmp .ge 7, 3) := by decide +kernel
theorem dX12_reaches_154 : decode cX12_reaches 154 = .ok (.iconst 0, 1) := by decide +kernel
theorem dX12_reaches_155 : decode cX12_reaches 155 = .ok (.goto 16, 3) := by decide +kernel
theorem dX12_reaches_158 : decode cX12_reaches 158 = .ok (.aload_n 0, 1) := by decide +kernel
theorem dX12_reaches_159 : decode cX12_reaches 159 = .ok (.getfield 10, 3) := by decide +kernel
theorem dX12_reaches_162 : decode cX12_reaches 162 = .ok (.iload_n 1, 1) := by decide +kernel
theorem dX12_reaches_163 : decode cX12_reaches 163 = .ok (.bipush 80, 2) := by decide +kernel
theorem dX12_reaches_165 : decode cX12_reaches 165 = .ok (.iadd, 1) := by decide +kernel
theorem dX12_reaches_166 : decode cX12_reaches 166 = .ok (.iload_n 2, 1) := by decide +kernel
theorem dX12_reaches_167 : decode cX12_reaches 167 = .ok (.iadd, 1) := by decide +kernel
theorem dX12_reaches_168 : decode cX12_reaches 168 = .ok (.iaload, 1) := by decide +kernel
theorem dX12_reaches_169 : decode cX12_reaches 169 = .ok (.iload_n 3, 1) := by decide +kernel
theorem dX12_reaches_170 : decode cX12_reaches 170 = .ok (.isub, 1) := by decide +kernel
theorem dX12_reaches_171 : decode cX12_reaches 171 = .ok (.iastore, 1) := by decide +kernel
theorem dX12_reaches_172 : decode cX12_reaches 172 = .ok (.return_, 1) := by decide +kernel
theorem dX12_stores_0 : decode cX12_stores 0 = .ok (.iload_n 2, 1) := by decide +kernel
theorem dX12_stores_1 : decode cX12_stores 1 = .ok (.iconst 4, 1) := by decide +kernel
theorem dX12_stores_2 : decode cX12_stores 2 = .ok (.idiv, 1) := by decide +kernel
theorem dX12_stores_3 : decode cX12_stores 3 = .ok (.istore 4, 2) := by decide +kernel
theorem dX12_stores_5 : decode cX12_stores 5 = .ok (.aload_n 0, 1) := by decide +kernel
theorem dX12_stores_6 : decode cX12_stores 6 = .ok (.getfield 10, 3) := by decide +kernel
theorem dX12_stores_9 : decode cX12_stores 9 = .ok (.iload_n 1, 1) := by decide +kernel
theorem dX12_stores_10 : decode cX12_stores 10 = .ok (.bipush 64, 2) := by decide +kernel
theorem dX12_stores_12 : decode cX12_stores 12 = .ok (.iadd, 1) := by decide +kernel
theorem dX12_stores_13 : decode cX12_stores 13 = .ok (.iload 4, 2) := by decide +kernel
theorem dX12_stores_15 : decode cX12_stores 15 = .ok (.iadd, 1) := by decide +kernel
theorem dX12_stores_16 : decode cX12_stores 16 = .ok (.iaload, 1) := by decide +kernel
theorem dX12_stores_17 : decode cX12_stores 17 = .ok (.bipush 6, 2) := by decide +kernel
theorem dX12_stores_19 : decode cX12_stores 19 = .ok (.if_icmp .ne 11, 3) := by decide +kernel
theorem dX12_stores_22 : decode cX12_stores 22 = .ok (.aload_n 0, 1) := by decide +kernel
theorem dX12_stores_23 : decode cX12_stores 23 = .ok (.iload_n 1, 1) := by decide +kernel
theorem dX12_stores_24 : decode cX12_stores 24 = .ok (.iload 4, 2) := by decide +kernel
theorem dX12_stores_26 : decode cX12_stores 26 = .ok (.iconst 1, 1) := by decide +kernel
theorem dX12_stores_27 : decode cX12_stores 27 = .ok (.invokevirtual 66, 3) := by decide +kernel
theorem dX12_stores_30 : decode cX12_stores 30 = .ok (.iload_n 1, 1) := by decide +kernel
theorem dX12_stores_31 : decode cX12_stores 31 = .ok (.bipush 96, 2) := by decide +kernel
theorem dX12_stores_33 : decode cX12_stores 33 = .ok (.iadd, 1) := by decide +kernel
theorem dX12_stores_34 : decode cX12_stores 34 = .ok (.bipush 12, 2) := by decide +kernel
theorem dX12_stores_36 : decode cX12_stores 36 = .ok (.iload 4, 2) := by decide +kernel
theorem dX12_stores_38 : decode cX12_stores 38 = .ok (.imul, 1) := by decide +kernel
theorem dX12_stores_39 : decode cX12_stores 39 = .ok (.iadd, 1) := by decide +kernel
theorem dX12_stores_40 : decode cX12_stores 40 = .ok (.iconst 2, 1) := by decide +kernel
theorem dX12_stores_41 : decode cX12_stores 41 = .ok (.aload_n 0, 1) := by decide +kernel
theorem dX12_stores_42 : decode cX12_stores 42 = .ok (.getfield 10, 3) := by decide +kernel
theorem dX12_stores_45 : decode cX12_stores 45 = .ok (.iload_n 1, 1) := by decide +kernel
theorem dX12_stores_46 : decode cX12_stores 46 = .ok (.bipush 64, 2) := by decide +kernel
theorem dX12_stores_48 : decode cX12_stores 48 = .ok (.iadd, 1) := by decide +kernel
theorem dX12_stores_49 : decode cX12_stores 49 = .ok (.iload 4, 2) := by decide +kernel
theorem dX12_stores_51 : decode cX12_stores 51 = .ok (.iadd, 1) := by decide +kernel
theorem dX12_stores_52 : decode cX12_stores 52 = .ok (.iaload, 1) := by decide +kernel
theorem dX12_stores_53 : decode cX12_stores 53 = .ok (.imul, 1) := by decide +kernel
theorem dX12_stores_54 : decode cX12_stores 54 = .ok (.iadd, 1) := by decide +kernel
theorem dX12_stores_55 : decode cX12_stores 55 = .ok (.istore 5, 2) := by decide +kernel
theorem dX12_stores_57 : decode cX12_stores 57 = .ok (.aload_n 0, 1) := by decide +kernel
theorem dX12_stores_58 : decode cX12_stores 58 = .ok (.getfield 10, 3) := by decide +kernel
theorem dX12_stores_61 : decode cX12_stores 61 = .ok (.iload 5, 2) := by decide +kernel
theorem dX12_stores_63 : decode cX12_stores 63 = .ok (.iload_n 2, 1) := by decide +kernel
theorem dX12_stores_64 : decode cX12_stores 64 = .ok (.iastore, 1) := by decide +kernel
theorem dX12_stores_65 : decode cX12_stores 65 = .ok (.aload_n 0, 1) := by decide +kernel
theorem dX12_stores_66 : decode cX12_stores 66 = .ok (.getfield 10, 3) := by decide +kernel
theorem dX12_stores_69 : decode cX12_stores 69 = .ok (.iload 5, 2) := by decide +kernel
theorem dX12_stores_71 : decode cX12_stores 71 = .ok (.iconst 1, 1) := by decide +kernel
theorem dX12_stores_72 : decode cX12_stores 72 = .ok (.iadd, 1) := by decide +kernel
theorem dX12_stores_73 : decode cX12_stores 73 = .ok (.iload_n 3, 1) := by decide +kernel
theorem dX12_stores_74 : decode cX12_stores 74 = .ok (.iastore, 1) := by decide +kernel
theorem dX12_stores_75 : decode cX12_stores 75 = .ok (.aload_n 0, 1) := by decide +kernel
theorem dX12_stores_76 : decode cX12_stores 76 = .ok (.getfield 10, 3) := by decide +kernel
theorem dX12_stores_79 : decode cX12_stores 79 = .ok (.iload_n 1, 1) := by decide +kernel
theorem dX12_stores_80 : decode cX12_stores 80 = .ok (.bipush 64, 2) := by decide +kernel
theorem dX12_stores_82 : decode cX12_stores 82 = .ok (.iadd, 1) := by decide +kernel
theorem dX12_stores_83 : decode cX12_stores 83 = .ok (.iload 4, 2) := by decide +kernel
theorem dX12_stores_85 : decode cX12_stores 85 = .ok (.iadd, 1) := by decide +kernel
theorem dX12_stores_86 : decode cX12_stores 86 = .ok (.dup2, 1) := by decide +kernel
theorem dX12_stores_87 : decode cX12_stores 87 = .ok (.iaload, 1) := by decide +kernel
theorem dX12_stores_88 : decode cX12_stores 88 = .ok (.iconst 1, 1) := by decide +kernel
theorem dX12_stores_89 : decode cX12_stores 89 = .ok (.iadd, 1) := by decide +kernel
theorem dX12_stores_90 : decode cX12_stores 90 = .ok (.iastore, 1) := by decide +kernel
theorem dX12_stores_91 : decode cX12_stores 91 = .ok (.return_, 1) := by decide +kernel
theorem dX12_does_0 : decode cX12_does 0 = .ok (.iload_n 2, 1) := by decide +kernel
theorem dX12_does_1 : decode cX12_does 1 = .ok (.ifCond .ne 28, 3) := by decide +kernel
theorem dX12_does_4 : decode cX12_does 4 = .ok (.aload_n 0, 1) := by decide +kernel
theorem dX12_does_5 : decode cX12_does 5 = .ok (.iload_n 1, 1) := by decide +kernel
theorem dX12_does_6 : decode cX12_does 6 = .ok (.iload_n 3, 1) := by decide +kernel
theorem dX12_does_7 : decode cX12_does 7 = .ok (.iload 4, 2) := by decide +kernel
theorem dX12_does_9 : decode cX12_does 9 = .ok (.invokevirtual 70, 3) := by decide +kernel
theorem dX12_does_12 : decode cX12_does 12 = .ok (.aload_n 0, 1) := by decide +kernel
theorem dX12_does_13 : decode cX12_does 13 = .ok (.getfield 10, 3) := by decide +kernel
theorem dX12_does_16 : decode cX12_does 16 = .ok (.iload_n 1, 1) := by decide +kernel
theorem dX12_does_17 : decode cX12_does 17 = .ok (.sipush 783, 3) := by decide +kernel
theorem dX12_does_20 : decode cX12_does 20 = .ok (.iadd, 1) := by decide +kernel
theorem dX12_does_21 : decode cX12_does 21 = .ok (.dup2, 1) := by decide +kernel
theorem dX12_does_22 : decode cX12_does 22 = .ok (.iaload, 1) := by decide +kernel
theorem dX12_does_23 : decode cX12_does 23 = .ok (.iconst 1, 1) := by decide +kernel
theorem dX12_does_24 : decode cX12_does 24 = .ok (.iadd, 1) := by decide +kernel
theorem dX12_does_25 : decode cX12_does 25 = .ok (.iastore, 1) := by decide +kernel
theorem dX12_does_26 : decode cX12_does 26 = .ok (.goto 96, 3) := by decide +kernel
theorem dX12_does_29 : decode cX12_does 29 = .ok (.iload_n 2, 1) := by decide +kernel
theorem dX12_does_30 : decode cX12_does 30 = .ok (.iconst 1, 1) := by decide +kernel
theorem dX12_does_31 : decode cX12_does 31 = .ok (.if_icmp .ne 42, 3) := by decide +kernel
theorem dX12_does_34 : decode cX12_does 34 = .ok (.aload_n 0, 1) := by decide +kernel
theorem dX12_does_35 : decode cX12_does 35 = .ok (.getfield 10, 3) := by decide +kernel
theorem dX12_does_38 : decode cX12_does 38 = .ok (.iload_n 1, 1) := by decide +kernel
theorem dX12_does_39 : decode cX12_does 39 = .ok (.bipush 80, 2) := by decide +kernel
theorem dX12_does_41 : decode cX12_does 41 = .ok (.iadd, 1) := by decide +kernel
theorem dX12_does_42 : decode cX12_does 42 = .ok (.iload_n 3, 1) := by decide +kernel
theorem dX12_does_43 : decode cX12_does 43 = .ok (.iadd, 1) := by decide +kernel
theorem dX12_does_44 : decode cX12_does 44 = .ok (.aload_n 0, 1) := by decide +kernel
theorem dX12_does_45 : decode cX12_does 45 = .ok (.getfield 10, 3) := by decide +kernel
theorem dX12_does_48 : decode cX12_does 48 = .ok (.iload_n 1, 1) := by decide +kernel
theorem dX12_does_49 : decode cX12_does 49 = .ok (.bipush 64, 2) := by decide +kernel
theorem dX12_does_51 : decode cX12_does 51 = .ok (.iadd, 1) := by decide +kernel
theorem dX12_does_52 : decode cX12_does 52 = .ok (.iload_n 3, 1) := by decide +kernel
theorem dX12_does_53 : decode cX12_does 53 = .ok (.iadd, 1) := by decide +kernel
theorem dX12_does_54 : decode cX12_does 54 = .ok (.iaload, 1) := by decide +kernel
theorem dX12_does_55 : decode cX12_does 55 = .ok (.iastore, 1) := by decide +kernel
theorem dX12_does_56 : decode cX12_does 56 = .ok (.aload_n 0, 1) := by decide +kernel
theorem dX12_does_57 : decode cX12_does 57 = .ok (.getfield 10, 3) := by decide +kernel
theorem dX12_does_60 : decode cX12_does 60 = .ok (.iload_n 1, 1) := by decide +kernel
theorem dX12_does_61 : decode cX12_does 61 = .ok (.sipush 784, 3) := by decide +kernel
theorem dX12_does_64 : decode cX12_does 64 = .ok (.iadd, 1) := by decide +kernel
theorem dX12_does_65 : decode cX12_does 65 = .ok (.dup2, 1) := by decide +kernel
theorem dX12_does_66 : decode cX12_does 66 = .ok (.iaload, 1) := by decide +kernel
theorem dX12_does_67 : decode cX12_does 67 = .ok (.iconst 1, 1) := by decide +kernel
theorem dX12_does_68 : decode cX12_does 68 = .ok (.iadd, 1) := by decide +kernel
theorem dX12_does_69 : decode cX12_does 69 = .ok (.iastore, 1) := by decide +kernel
theorem dX12_does_70 : decode cX12_does 70 = .ok (.goto 52, 3) := by decide +kernel
theorem dX12_does_73 : decode cX12_does 73 = .ok (.iconst 0, 1) := by decide +kernel
theorem dX12_does_74 : decode cX12_does 74 = .ok (.istore 5, 2) := by decide +kernel
theorem dX12_does_76 : decode cX12_does 76 = .ok (.iload 5, 2) := by decide +kernel
theorem dX12_does_78 : decode cX12_does 78 = .ok (.bipush 16, 2) := by decide +kernel
theorem dX12_does_80 : decode cX12_does 80 = .ok (.if_icmp .ge 28, 3) := by decide +kernel
theorem dX12_does_83 : decode cX12_does 83 = .ok (.aload_n 0, 1) := by decide +kernel
theorem dX12_does_84 : decode cX12_does 84 = .ok (.iload_n 1, 1) := by decide +kernel
theorem dX12_does_85 : decode cX12_does 85 = .ok (.iload 5, 2) := by decide +kernel
theorem dX12_does_87 : decode cX12_does 87 = .ok (.aload_n 0, 1) := by decide +kernel
theorem dX12_does_88 : decode cX12_does 88 = .ok (.getfield 10, 3) := by decide +kernel
theorem dX12_does_91 : decode cX12_does 91 = .ok (.iload_n 1, 1) := by decide +kernel
theorem dX12_does_92 : decode cX12_does 92 = .ok (.bipush 80, 2) := by decide +kernel
theorem dX12_does_94 : decode cX12_does 94 = .ok (.iadd, 1) := by decide +kernel
theorem dX12_does_95 : decode cX12_does 95 = .ok (.iload 5, 2) := by decide +kernel
theorem dX12_does_97 : decode cX12_does 97 = .ok (.iadd, 1) := by decide +kernel
theorem dX12_does_98 : decode cX12_does 98 = .ok (.iaload, 1) := by decide +kernel
theorem dX12_does_99 : decode cX12_does 99 = .ok (.invokevirtual 66, 3) := by decide +kernel
theorem dX12_does_102 : decode cX12_does 102 = .ok (.iinc 5 1, 3) := by decide +kernel
theorem dX12_does_105 : decode cX12_does 105 = .ok (.goto (-29), 3) := by decide +kernel
theorem dX12_does_108 : decode cX12_does 108 = .ok (.aload_n 0, 1) := by decide +kernel
theorem dX12_does_109 : decode cX12_does 109 = .ok (.getfield 10, 3) := by decide +kernel
theorem dX12_does_112 : decode cX12_does 112 = .ok (.iload_n 1, 1) := by decide +kernel
theorem dX12_does_113 : decode cX12_does 113 = .ok (.sipush 785, 3) := by decide +kernel
theorem dX12_does_116 : decode cX12_does 116 = .ok (.iadd, 1) := by decide +kernel
theorem dX12_does_117 : decode cX12_does 117 = .ok (.dup2, 1) := by decide +kernel
theorem dX12_does_118 : decode cX12_does 118 = .ok (.iaload, 1) := by decide +kernel
theorem dX12_does_119 : decode cX12_does 119 = .ok (.iconst 1, 1) := by decide +kernel
theorem dX12_does_120 : decode cX12_does 120 = .ok (.iadd, 1) := by decide +kernel
theorem dX12_does_121 : decode cX12_does 121 = .ok (.iastore, 1) := by decide +kernel
theorem dX12_does_122 : decode cX12_does 122 = .ok (.return_, 1) := by decide +kernel
theorem dX12_writes_0 : decode cX12_writes 0 = .ok (.aload_n 0, 1) := by decide +kernel
theorem dX12_writes_1 : decode cX12_writes 1 = .ok (.getfield 30, 3) := by decide +kernel
theorem dX12_writes_4 : decode cX12_writes 4 = .ok (.iload_n 1, 1) := by decide +kernel
theorem dX12_writes_5 : decode cX12_writes 5 = .ok (.iload_n 2, 1) := by decide +kernel
theorem dX12_writes_6 : decode cX12_writes 6 = .ok (.iastore, 1) := by decide +kernel
theorem dX12_writes_7 : decode cX12_writes 7 = .ok (.aload_n 0, 1) := by decide +kernel
theorem dX12_writes_8 : decode cX12_writes 8 = .ok (.getfield 33, 3) := by decide +kernel
theorem dX12_writes_11 : decode cX12_writes 11 = .ok (.aload_n 0, 1) := by decide +kernel
theorem dX12_writes_12 : decode cX12_writes 12 = .ok (.getfield 73, 3) := by decide +kernel
theorem dX12_writes_15 : decode cX12_writes 15 = .ok (.iload_n 1, 1) := by decide +kernel
theorem dX12_writes_16 : decode cX12_writes 16 = .ok (.iastore, 1) := by decide +kernel
theorem dX12_writes_17 : decode cX12_writes 17 = .ok (.aload_n 0, 1) := by decide +kernel
theorem dX12_writes_18 : decode cX12_writes 18 = .ok (.getfield 36, 3) := by decide +kernel
theorem dX12_writes_21 : decode cX12_writes 21 = .ok (.aload_n 0, 1) := by decide +kernel
theorem dX12_writes_22 : decode cX12_writes 22 = .ok (.getfield 73, 3) := by decide +kernel
theorem dX12_writes_25 : decode cX12_writes 25 = .ok (.iload_n 2, 1) := by decide +kernel
theorem dX12_writes_26 : decode cX12_writes 26 = .ok (.iastore, 1) := by decide +kernel
theorem dX12_writes_27 : decode cX12_writes 27 = .ok (.aload_n 0, 1) := by decide +kernel
theorem dX12_writes_28 : decode cX12_writes 28 = .ok (.dup, 1) := by decide +kernel
theorem dX12_writes_29 : decode cX12_writes 29 = .ok (.getfield 73, 3) := by decide +kernel
theorem dX12_writes_32 : decode cX12_writes 32 = .ok (.iconst 1, 1) := by decide +kernel
theorem dX12_writes_33 : decode cX12_writes 33 = .ok (.iadd, 1) := by decide +kernel
theorem dX12_writes_34 : decode cX12_writes 34 = .ok (.putfield 73, 3) := by decide +kernel
theorem dX12_writes_37 : decode cX12_writes 37 = .ok (.return_, 1) := by decide +kernel
theorem dX12_isUsed_0 : decode cX12_isUsed 0 = .ok (.aload_n 0, 1) := by decide +kernel
theorem dX12_isUsed_1 : decode cX12_isUsed 1 = .ok (.iload_n 1, 1) := by decide +kernel
theorem dX12_isUsed_2 : decode cX12_isUsed 2 = .ok (.invokestatic 76, 3) := by decide +kernel
theorem dX12_isUsed_5 : decode cX12_isUsed 5 = .ok (.iaload, 1) := by decide +kernel
theorem dX12_isUsed_6 : decode cX12_isUsed 6 = .ok (.iconst 1, 1) := by decide +kernel
theorem dX12_isUsed_7 : decode cX12_isUsed 7 = .ok (.if_icmp .ne 7, 3) := by decide +kernel
theorem dX12_isUsed_10 : decode cX12_isUsed 10 = .ok (.iconst 1, 1) := by decide +kernel
theorem dX12_isUsed_11 : decode cX12_isUsed 11 = .ok (.goto 4, 3) := by decide +kernel
theorem dX12_isUsed_14 : decode cX12_isUsed 14 = .ok (.iconst 0, 1) := by decide +kernel
theorem dX12_isUsed_15 : decode cX12_isUsed 15 = .ok (.ireturn, 1) := by decide +kernel
theorem dX12_usedAt_0 : decode cX12_usedAt 0 = .ok (.iload_n 1, 1) := by decide +kernel
theorem dX12_usedAt_1 : decode cX12_usedAt 1 = .ok (.invokestatic 80, 3) := by decide +kernel
theorem dX12_usedAt_4 : decode cX12_usedAt 4 = .ok (.istore_n 2, 1) := by decide +kernel
theorem dX12_usedAt_5 : decode cX12_usedAt 5 = .ok (.iload_n 2, 1) := by decide +kernel
theorem dX12_usedAt_6 : decode cX12_usedAt 6 = .ok (.iconst (-1), 1) := by decide +kernel
theorem dX12_usedAt_7 : decode cX12_usedAt 7 = .ok (.if_icmp .eq 15, 3) := by decide +kernel
theorem dX12_usedAt_10 : decode cX12_usedAt 10 = .ok (.aload_n 0, 1) := by decide +kernel
theorem dX12_usedAt_11 : decode cX12_usedAt 11 = .ok (.iload_n 2, 1) := by decide +kernel
theorem dX12_usedAt_12 : decode cX12_usedAt 12 = .ok (.invokestatic 83, 3) := by decide +kernel
theorem dX12_usedAt_15 : decode cX12_usedAt 15 = .ok (.ifCond .eq 7, 3) := by decide +kernel
theorem dX12_usedAt_18 : decode cX12_usedAt 18 = .ok (.iload_n 2, 1) := by decide +kernel
theorem dX12_usedAt_19 : decode cX12_usedAt 19 = .ok (.goto 4, 3) := by decide +kernel
theorem dX12_usedAt_22 : decode cX12_usedAt 22 = .ok (.iconst (-1), 1) := by decide +kernel
theorem dX12_usedAt_23 : decode cX12_usedAt 23 = .ok (.ireturn, 1) := by decide +kernel
theorem dX12_shapes_0 : decode cX12_shapes 0 = .ok (.aload_n 0, 1) := by decide +kernel
theorem dX12_shapes_1 : decode cX12_shapes 1 = .ok (.aload_n 0, 1) := by decide +kernel
theorem dX12_shapes_2 : decode cX12_shapes 2 = .ok (.aload_n 0, 1) := by decide +kernel
theorem dX12_shapes_3 : decode cX12_shapes 3 = .ok (.iconst 0, 1) := by decide +kernel
theorem dX12_shapes_4 : decode cX12_shapes 4 = .ok (.dup_x1, 1) := by decide +kernel
theorem dX12_shapes_5 : decode cX12_shapes 5 = .ok (.putfield 87, 3) := by decide +kernel
theorem dX12_shapes_8 : decode cX12_shapes 8 = .ok (.dup_x1, 1) := by decide +kernel
theorem dX12_shapes_9 : decode cX12_shapes 9 = .ok (.putfield 90, 3) := by decide +kernel
theorem dX12_shapes_12 : decode cX12_shapes 12 = .ok (.putfield 93, 3) := by decide +kernel
theorem dX12_shapes_15 : decode cX12_shapes 15 = .ok (.iconst 0, 1) := by decide +kernel
theorem dX12_shapes_16 : decode cX12_shapes 16 = .ok (.istore_n 2, 1) := by decide +kernel
theorem dX12_shapes_17 : decode cX12_shapes 17 = .ok (.iload_n 2, 1) := by decide +kernel
theorem dX12_shapes_18 : decode cX12_shapes 18 = .ok (.iconst 4, 1) := by decide +kernel
theorem dX12_shapes_19 : decode cX12_shapes 19 = .ok (.if_icmp .ge 160, 3) := by decide +kernel
theorem dX12_shapes_22 : decode cX12_shapes 22 = .ok (.iconst 0, 1) := by decide +kernel
theorem dX12_shapes_23 : decode cX12_shapes 23 = .ok (.istore_n 3, 1) := by decide +kernel
theorem dX12_shapes_24 : decode cX12_shapes 24 = .ok (.aload_n 1, 1) := by decide +kernel
theorem dX12_shapes_25 : decode cX12_shapes 25 = .ok (.bipush 20, 2) := by decide +kernel
theorem dX12_shapes_27 : decode cX12_shapes 27 = .ok (.iload_n 2, 1) := by decide +kernel
theorem dX12_shapes_28 : decode cX12_shapes 28 = .ok (.iadd, 1) := by decide +kernel
theorem dX12_shapes_29 : decode cX12_shapes 29 = .ok (.iaload, 1) := by decide +kernel
theorem dX12_shapes_30 : decode cX12_shapes 30 = .ok (.istore 4, 2) := by decide +kernel
theorem dX12_shapes_32 : decode cX12_shapes 32 = .ok (.iload 4, 2) := by decide +kernel
theorem dX12_shapes_34 : decode cX12_shapes 34 = .ok (.ifCond .eq 7, 3) := by decide +kernel
theorem dX12_shapes_37 : decode cX12_shapes 37 = .ok (.iconst 1, 1) := by decide +kernel
theorem dX12_shapes_38 : decode cX12_shapes 38 = .ok (.goto 4, 3) := by decide +kernel
theorem dX12_shapes_41 : decode cX12_shapes 41 = .ok (.iconst 0, 1) := by decide +kernel
theorem dX12_shapes_42 : decode cX12_shapes 42 = .ok (.istore 5, 2) := by decide +kernel
theorem dX12_shapes_44 : decode cX12_shapes 44 = .ok (.iload 5, 2) := by decide +kernel
theorem dX12_shapes_46 : decode cX12_shapes 46 = .ok (.ifCond .eq 117, 3) := by decide +kernel
theorem dX12_shapes_49 : decode cX12_shapes 49 = .ok (.aload_n 1, 1) := by decide +kernel
theorem dX12_shapes_50 : decode cX12_shapes 50 = .ok (.iload 4, 2) := by decide +kernel
theorem dX12_shapes_52 : decode cX12_shapes 52 = .ok (.invokestatic 96, 3) := by decide +kernel
theorem dX12_shapes_55 : decode cX12_shapes 55 = .ok (.istore 6, 2) := by decide +kernel
theorem dX12_shapes_57 : decode cX12_shapes 57 = .ok (.iload 6, 2) := by decide +kernel
theorem dX12_shapes_59 : decode cX12_shapes 59 = .ok (.iconst (-1), 1) := by decide +kernel
theorem dX12_shapes_60 : decode cX12_shapes 60 = .ok (.if_icmp .ne 18, 3) := by decide +kernel
theorem dX12_shapes_63 : decode cX12_shapes 63 = .ok (.aload_n 0, 1) := by decide +kernel
theorem dX12_shapes_64 : decode cX12_shapes 64 = .ok (.dup, 1) := by decide +kernel
theorem dX12_shapes_65 : decode cX12_shapes 65 = .ok (.getfield 90, 3) := by decide +kernel
theorem dX12_shapes_68 : decode cX12_shapes 68 = .ok (.iconst 1, 1) := by decide +kernel
theorem dX12_shapes_69 : decode cX12_shapes 69 = .ok (.iload_n 2, 1) := by decide +kernel
theorem dX12_shapes_70 : decode cX12_shapes 70 = .ok (.ishl, 1) := by decide +kernel
theorem dX12_shapes_71 : decode cX12_shapes 71 = .ok (.ior, 1) := by decide +kernel
theorem dX12_shapes_72 : decode cX12_shapes 72 = .ok (.putfield 90, 3) := by decide +kernel
theorem dX12_shapes_75 : decode cX12_shapes 75 = .ok (.goto 25, 3) := by decide +kernel
theorem dX12_shapes_78 : decode cX12_shapes 78 = .ok (.iload_n 3, 1) := by decide +kernel
theorem dX12_shapes_79 : decode cX12_shapes 79 = .ok (.iload 6, 2) := by decide +kernel
theorem dX12_shapes_81 : decode cX12_shapes 81 = .ok (.ishr, 1) := by decide +kernel
theorem dX12_shapes_82 : decode cX12_shapes 82 = .ok (.iconst 1, 1) := by decide +kernel
theorem dX12_shapes_83 : decode cX12_shapes 83 = .ok (.iand, 1) := by decide +kernel
theorem dX12_shapes_84 : decode cX12_shapes 84 = .ok (.iconst 1, 1) := by decide +kernel
theorem dX12_shapes_85 : decode cX12_shapes 85 = .ok (.if_icmp .ne 15, 3) := by decide +kernel
theorem dX12_shapes_88 : decode cX12_shapes 88 = .ok (.aload_n 0, 1) := by decide +kernel
theorem dX12_shapes_89 : decode cX12_shapes 89 = .ok (.dup, 1) := by decide +kernel
theorem dX12_shapes_90 : decode cX12_shapes 90 = .ok (.getfield 87, 3) := by decide +kernel
theorem dX12_shapes_93 : decode cX12_shapes 93 = .ok (.iconst 1, 1) := by decide +kernel
theorem dX12_shapes_94 : decode cX12_shapes 94 = .ok (.iload_n 2, 1) := by decide +kernel
theorem dX12_shapes_95 : decode cX12_shapes 95 = .ok (.ishl, 1) := by decide +kernel
theorem dX12_shapes_96 : decode cX12_shapes 96 = .ok (.ior, 1) := by decide +kernel
theorem dX12_shapes_97 : decode cX12_shapes 97 = .ok (.putfield 87, 3) := by decide +kernel
theorem dX12_shapes_100 : decode cX12_shapes 100 = .ok (.iload 6, 2) := by decide +kernel
theorem dX12_shapes_102 : decode cX12_shapes 102 = .ok (.iconst (-1), 1) := by decide +kernel
theorem dX12_shapes_103 : decode cX12_shapes 103 = .ok (.if_icmp .eq 16, 3) := by decide +kernel
theorem dX12_shapes_106 : decode cX12_shapes 106 = .ok (.iload_n 3, 1) := by decide +kernel
theorem dX12_shapes_107 : decode cX12_shapes 107 = .ok (.iload 6, 2) := by decide +kernel
theorem dX12_shapes_109 : decode cX12_shapes 109 = .ok (.ishr, 1) := by decide +kernel
theorem dX12_shapes_110 : decode cX12_shapes 110 = .ok (.iconst 1, 1) := by decide +kernel
theorem dX12_shapes_111 : decode cX12_shapes 111 = .ok (.iand, 1) := by decide +kernel
theorem dX12_shapes_112 : decode cX12_shapes 112 = .ok (.ifCond .ne 7, 3) := by decide +kernel
theorem dX12_shapes_115 : decode cX12_shapes 115 = .ok (.iconst 1, 1) := by decide +kernel
theorem dX12_shapes_116 : decode cX12_shapes 116 = .ok (.goto 4, 3) := by decide +kernel
theorem dX12_shapes_119 : decode cX12_shapes 119 = .ok (.iconst 0, 1) := by decide +kernel
theorem dX12_shapes_120 : decode cX12_shapes 120 = .ok (.istore 5, 2) := by decide +kernel
theorem dX12_shapes_122 : decode cX12_shapes 122 = .ok (.iload 5, 2) := by decide +kernel
theorem dX12_shapes_124 : decode cX12_shapes 124 = .ok (.ifCond .ne 6, 3) := by decide +kernel
theorem dX12_shapes_127 : decode cX12_shapes 127 = .ok (.goto (-83), 3) := by decide +kernel
theorem dX12_shapes_130 : decode cX12_shapes 130 = .ok (.iload_n 3, 1) := by decide +kernel
theorem dX12_shapes_131 : decode cX12_shapes 131 = .ok (.iconst 1, 1) := by decide +kernel
theorem dX12_shapes_132 : decode cX12_shapes 132 = .ok (.iload 6, 2) := by decide +kernel
theorem dX12_shapes_134 : decode cX12_shapes 134 = .ok (.ishl, 1) := by decide +kernel
theorem dX12_shapes_135 : decode cX12_shapes 135 = .ok (.ior, 1) := by decide +kernel
theorem dX12_shapes_136 : decode cX12_shapes 136 = .ok (.istore_n 3, 1) := by decide +kernel
theorem dX12_shapes_137 : decode cX12_shapes 137 = .ok (.aload_n 1, 1) := by decide +kernel
theorem dX12_shapes_138 : decode cX12_shapes 138 = .ok (.iload 6, 2) := by decide +kernel
theorem dX12_shapes_140 : decode cX12_shapes 140 = .ok (.invokestatic 76, 3) := by decide +kernel
theorem dX12_shapes_143 : decode cX12_shapes 143 = .ok (.iconst 1, 1) := by decide +kernel
theorem dX12_shapes_144 : decode cX12_shapes 144 = .ok (.iadd, 1) := by decide +kernel
theorem dX12_shapes_145 : decode cX12_shapes 145 = .ok (.iaload, 1) := by decide +kernel
theorem dX12_shapes_146 : decode cX12_shapes 146 = .ok (.istore 4, 2) := by decide +kernel
theorem dX12_shapes_148 : decode cX12_shapes 148 = .ok (.iload 4, 2) := by decide +kernel
theorem dX12_shapes_150 : decode cX12_shapes 150 = .ok (.ifCond .eq 7, 3) := by decide +kernel
theorem dX12_shapes_153 : decode cX12_shapes 153 = .ok (.iconst 1, 1) := by decide +kernel
theorem dX12_shapes_154 : decode cX12_shapes 154 = .ok (.goto 4, 3) := by decide +kernel
theorem dX12_shapes_157 : decode cX12_shapes 157 = .ok (.iconst 0, 1) := by decide +kernel
theorem dX12_shapes_158 : decode cX12_shapes 158 = .ok (.istore 5, 2) := by decide +kernel
theorem dX12_shapes_160 : decode cX12_shapes 160 = .ok (.goto (-116), 3) := by decide +kernel
theorem dX12_shapes_163 : decode cX12_shapes 163 = .ok (.aload_n 0, 1) := by decide +kernel
theorem dX12_shapes_164 : decode cX12_shapes 164 = .ok (.dup, 1) := by decide +kernel
theorem dX12_shapes_165 : decode cX12_shapes 165 = .ok (.getfield 93, 3) := by decide +kernel
theorem dX12_shapes_168 : decode cX12_shapes 168 = .ok (.iload_n 3, 1) := by decide +kernel
theorem dX12_shapes_169 : decode cX12_shapes 169 = .ok (.ior, 1) := by decide +kernel
theorem dX12_shapes_170 : decode cX12_shapes 170 = .ok (.putfield 93, 3) := by decide +kernel
theorem dX12_shapes_173 : decode cX12_shapes 173 = .ok (.iinc 2 1, 3) := by decide +kernel
theorem dX12_shapes_176 : decode cX12_shapes 176 = .ok (.goto (-159), 3) := by decide +kernel
theorem dX12_shapes_179 : decode cX12_shapes 179 = .ok (.return_, 1) := by decide +kernel
theorem dX12_usedBlocks_0 : decode cX12_usedBlocks 0 = .ok (.iconst 0, 1) := by decide +kernel
theorem dX12_usedBlocks_1 : decode cX12_usedBlocks 1 = .ok (.istore_n 1, 1) := by decide +kernel
theorem dX12_usedBlocks_2 : decode cX12_usedBlocks 2 = .ok (.iconst 0, 1) := by decide +kernel
theorem dX12_usedBlocks_3 : decode cX12_usedBlocks 3 = .ok (.istore_n 2, 1) := by decide +kernel
theorem dX12_usedBlocks_4 : decode cX12_usedBlocks 4 = .ok (.iload_n 2, 1) := by decide +kernel
theorem dX12_usedBlocks_5 : decode cX12_usedBlocks 5 = .ok (.bipush 10, 2) := by decide +kernel
theorem dX12_usedBlocks_7 : decode cX12_usedBlocks 7 = .ok (.if_icmp .ge 23, 3) := by decide +kernel
theorem dX12_usedBlocks_10 : decode cX12_usedBlocks 10 = .ok (.aload_n 0, 1) := by decide +kernel
theorem dX12_usedBlocks_11 : decode cX12_usedBlocks 11 = .ok (.iload_n 2, 1) := by decide +kernel
theorem dX12_usedBlocks_12 : decode cX12_usedBlocks 12 = .ok (.invokestatic 83, 3) := by decide +kernel
theorem dX12_usedBlocks_15 : decode cX12_usedBlocks 15 = .ok (.ifCond .eq 9, 3) := by decide +kernel
theorem dX12_usedBlocks_18 : decode cX12_usedBlocks 18 = .ok (.iload_n 1, 1) := by decide +kernel
theorem dX12_usedBlocks_19 : decode cX12_usedBlocks 19 = .ok (.iconst 1, 1) := by decide +kernel
theorem dX12_usedBlocks_20 : decode cX12_usedBlocks 20 = .ok (.iload_n 2, 1) := by decide +kernel
theorem dX12_usedBlocks_21 : decode cX12_usedBlocks 21 = .ok (.ishl, 1) := by decide +kernel
theorem dX12_usedBlocks_22 : decode cX12_usedBlocks 22 = .ok (.ior, 1) := by decide +kernel
theorem dX12_usedBlocks_23 : decode cX12_usedBlocks 23 = .ok (.istore_n 1, 1) := by decide +kernel
theorem dX12_usedBlocks_24 : decode cX12_usedBlocks 24 = .ok (.iinc 2 1, 3) := by decide +kernel
theorem dX12_usedBlocks_27 : decode cX12_usedBlocks 27 = .ok (.goto (-23), 3) := by decide +kernel
theorem dX12_usedBlocks_30 : decode cX12_usedBlocks 30 = .ok (.iload_n 1, 1) := by decide +kernel
theorem dX12_usedBlocks_31 : decode cX12_usedBlocks 31 = .ok (.ireturn, 1) := by decide +kernel
theorem dX12_bits_0 : decode cX12_bits 0 = .ok (.iconst 0, 1) := by decide +kernel
theorem dX12_bits_1 : decode cX12_bits 1 = .ok (.istore_n 1, 1) := by decide +kernel
theorem dX12_bits_2 : decode cX12_bits 2 = .ok (.iload_n 0, 1) := by decide +kernel
theorem dX12_bits_3 : decode cX12_bits 3 = .ok (.istore_n 2, 1) := by decide +kernel
theorem dX12_bits_4 : decode cX12_bits 4 = .ok (.iload_n 2, 1) := by decide +kernel
theorem dX12_bits_5 : decode cX12_bits 5 = .ok (.ifCond .eq 15, 3) := by decide +kernel
theorem dX12_bits_8 : decode cX12_bits 8 = .ok (.iinc 1 1, 3) := by decide +kernel
theorem dX12_bits_11 : decode cX12_bits 11 = .ok (.iload_n 2, 1) := by decide +kernel
theorem dX12_bits_12 : decode cX12_bits 12 = .ok (.iload_n 2, 1) := by decide +kernel
theorem dX12_bits_13 : decode cX12_bits 13 = .ok (.iconst 1, 1) := by decide +kernel
theorem dX12_bits_14 : decode cX12_bits 14 = .ok (.isub, 1) := by decide +kernel
theorem dX12_bits_15 : decode cX12_bits 15 = .ok (.iand, 1) := by decide +kernel
theorem dX12_bits_16 : decode cX12_bits 16 = .ok (.istore_n 2, 1) := by decide +kernel
theorem dX12_bits_17 : decode cX12_bits 17 = .ok (.goto (-13), 3) := by decide +kernel
theorem dX12_bits_20 : decode cX12_bits 20 = .ok (.iload_n 1, 1) := by decide +kernel
theorem dX12_bits_21 : decode cX12_bits 21 = .ok (.ireturn, 1) := by decide +kernel
theorem dX12_leaked_0 : decode cX12_leaked 0 = .ok (.aload_n 0, 1) := by decide +kernel
theorem dX12_leaked_1 : decode cX12_leaked 1 = .ok (.aload_n 1, 1) := by decide +kernel
theorem dX12_leaked_2 : decode cX12_leaked 2 = .ok (.invokevirtual 100, 3) := by decide +kernel
theorem dX12_leaked_5 : decode cX12_leaked 5 = .ok (.aload_n 1, 1) := by decide +kernel
theorem dX12_leaked_6 : decode cX12_leaked 6 = .ok (.invokestatic 104, 3) := by decide +kernel
theorem dX12_leaked_9 : decode cX12_leaked 9 = .ok (.aload_n 0, 1) := by decide +kernel
theorem dX12_leaked_10 : decode cX12_leaked 10 = .ok (.getfield 93, 3) := by decide +kernel
theorem dX12_leaked_13 : decode cX12_leaked 13 = .ok (.iconst (-1), 1) := by decide +kernel
theorem dX12_leaked_14 : decode cX12_leaked 14 = .ok (.ixor, 1) := by decide +kernel
theorem dX12_leaked_15 : decode cX12_leaked 15 = .ok (.iand, 1) := by decide +kernel
theorem dX12_leaked_16 : decode cX12_leaked 16 = .ok (.ireturn, 1) := by decide +kernel
theorem dX12_freeBlock_0 : decode cX12_freeBlock 0 = .ok (.iconst 0, 1) := by decide +kernel
theorem dX12_freeBlock_1 : decode cX12_freeBlock 1 = .ok (.istore_n 1, 1) := by decide +kernel
theorem dX12_freeBlock_2 : decode cX12_freeBlock 2 = .ok (.iload_n 1, 1) := by decide +kernel
theorem dX12_freeBlock_3 : decode cX12_freeBlock 3 = .ok (.bipush 10, 2) := by decide +kernel
theorem dX12_freeBlock_5 : decode cX12_freeBlock 5 = .ok (.if_icmp .ge 21, 3) := by decide +kernel
theorem dX12_freeBlock_8 : decode cX12_freeBlock 8 = .ok (.aload_n 0, 1) := by decide +kernel
theorem dX12_freeBlock_9 : decode cX12_freeBlock 9 = .ok (.getfield 30, 3) := by decide +kernel
theorem dX12_freeBlock_12 : decode cX12_freeBlock 12 = .ok (.iload_n 1, 1) := by decide +kernel
theorem dX12_freeBlock_13 : decode cX12_freeBlock 13 = .ok (.invokestatic 76, 3) := by decide +kernel
theorem dX12_freeBlock_16 : decode cX12_freeBlock 16 = .ok (.iaload, 1) := by decide +kernel
theorem dX12_freeBlock_17 : decode cX12_freeBlock 17 = .ok (.ifCond .eq 9, 3) := by decide +kernel
theorem dX12_freeBlock_20 : decode cX12_freeBlock 20 = .ok (.iinc 1 1, 3) := by decide +kernel
theorem dX12_freeBlock_23 : decode cX12_freeBlock 23 = .ok (.goto (-21), 3) := by decide +kernel
theorem dX12_freeBlock_26 : decode cX12_freeBlock 26 = .ok (.iload_n 1, 1) := by decide +kernel
theorem dX12_freeBlock_27 : decode cX12_freeBlock 27 = .ok (.bipush 10, 2) := by decide +kernel
theorem dX12_freeBlock_29 : decode cX12_freeBlock 29 = .ok (.if_icmp .ge 7, 3) := by decide +kernel
theorem dX12_freeBlock_32 : decode cX12_freeBlock 32 = .ok (.iload_n 1, 1) := by decide +kernel
theorem dX12_freeBlock_33 : decode cX12_freeBlock 33 = .ok (.goto 4, 3) := by decide +kernel
theorem dX12_freeBlock_36 : decode cX12_freeBlock 36 = .ok (.iconst (-1), 1) := by decide +kernel
theorem dX12_freeBlock_37 : decode cX12_freeBlock 37 = .ok (.ireturn, 1) := by decide +kernel
theorem dX12_isOp_0 : decode cX12_isOp 0 = .ok (.iload_n 1, 1) := by decide +kernel
theorem dX12_isOp_1 : decode cX12_isOp 1 = .ok (.iconst 3, 1) := by decide +kernel
theorem dX12_isOp_2 : decode cX12_isOp 2 = .ok (.if_icmp .ne 11, 3) := by decide +kernel
theorem dX12_isOp_5 : decode cX12_isOp 5 = .ok (.aload_n 0, 1) := by decide +kernel
theorem dX12_isOp_6 : decode cX12_isOp 6 = .ok (.iload_n 2, 1) := by decide +kernel
theorem dX12_isOp_7 : decode cX12_isOp 7 = .ok (.iload_n 3, 1) := by decide +kernel
theorem dX12_isOp_8 : decode cX12_isOp 8 = .ok (.invokevirtual 108, 3) := by decide +kernel
theorem dX12_isOp_11 : decode cX12_isOp 11 = .ok (.iconst 1, 1) := by decide +kernel
theorem dX12_isOp_12 : decode cX12_isOp 12 = .ok (.ireturn, 1) := by decide +kernel
theorem dX12_isOp_13 : decode cX12_isOp 13 = .ok (.iload_n 1, 1) := by decide +kernel
theorem dX12_isOp_14 : decode cX12_isOp 14 = .ok (.iconst 4, 1) := by decide +kernel
theorem dX12_isOp_15 : decode cX12_isOp 15 = .ok (.if_icmp .ne 61, 3) := by decide +kernel
theorem dX12_isOp_18 : decode cX12_isOp 18 = .ok (.aload_n 0, 1) := by decide +kernel
theorem dX12_isOp_19 : decode cX12_isOp 19 = .ok (.aload_n 0, 1) := by decide +kernel
theorem dX12_isOp_20 : decode cX12_isOp 20 = .ok (.getfield 30, 3) := by decide +kernel
theorem dX12_isOp_23 : decode cX12_isOp 23 = .ok (.invokevirtual 111, 3) := by decide +kernel
theorem dX12_isOp_26 : decode cX12_isOp 26 = .ok (.istore 4, 2) := by decide +kernel
theorem dX12_isOp_28 : decode cX12_isOp 28 = .ok (.iconst 0, 1) := by decide +kernel
theorem dX12_isOp_29 : decode cX12_isOp 29 = .ok (.istore 5, 2) := by decide +kernel
theorem dX12_isOp_31 : decode cX12_isOp 31 = .ok (.iload 5, 2) := by decide +kernel
theorem dX12_isOp_33 : decode cX12_isOp 33 = .ok (.bipush 10, 2) := by decide +kernel
theorem dX12_isOp_35 : decode cX12_isOp 35 = .ok (.if_icmp .ge 30, 3) := by decide +kernel
theorem dX12_isOp_38 : decode cX12_isOp 38 = .ok (.iload 4, 2) := by decide +kernel
theorem dX12_isOp_40 : decode cX12_isOp 40 = .ok (.iload 5, 2) := by decide +kernel
theorem dX12_isOp_42 : decode cX12_isOp 42 = .ok (.ishr, 1) := by decide +kernel
theorem dX12_isOp_43 : decode cX12_isOp 43 = .ok (.iconst 1, 1) := by decide +kernel
theorem dX12_isOp_44 : decode cX12_isOp 44 = .ok (.iand, 1) := by decide +kernel
theorem dX12_isOp_45 : decode cX12_isOp 45 = .ok (.iconst 1, 1) := by decide +kernel
theorem dX12_isOp_46 : decode cX12_isOp 46 = .ok (.if_icmp .ne 13, 3) := by decide +kernel
theorem dX12_isOp_49 : decode cX12_isOp 49 = .ok (.aload_n 0, 1) := by decide +kernel
theorem dX12_isOp_50 : decode cX12_isOp 50 = .ok (.iload 5, 2) := by decide +kernel
theorem dX12_isOp_52 : decode cX12_isOp 52 = .ok (.invokestatic 76, 3) := by decide +kernel
theorem dX12_isOp_55 : decode cX12_isOp 55 = .ok (.iconst 0, 1) := by decide +kernel
theorem dX12_isOp_56 : decode cX12_isOp 56 = .ok (.invokevirtual 108, 3) := by decide +kernel
theorem dX12_isOp_59 : decode cX12_isOp 59 = .ok (.iinc 5 1, 3) := by decide +kernel
theorem dX12_isOp_62 : decode cX12_isOp 62 = .ok (.goto (-31), 3) := by decide +kernel
theorem dX12_isOp_65 : decode cX12_isOp 65 = .ok (.iload 4, 2) := by decide +kernel
theorem dX12_isOp_67 : decode cX12_isOp 67 = .ok (.ifCond .eq 7, 3) := by decide +kernel
theorem dX12_isOp_70 : decode cX12_isOp 70 = .ok (.iconst 1, 1) := by decide +kernel
theorem dX12_isOp_71 : decode cX12_isOp 71 = .ok (.goto 4, 3) := by decide +kernel
theorem dX12_isOp_74 : decode cX12_isOp 74 = .ok (.iconst 0, 1) := by decide +kernel
theorem dX12_isOp_75 : decode cX12_isOp 75 = .ok (.ireturn, 1) := by decide +kernel
theorem dX12_isOp_76 : decode cX12_isOp 76 = .ok (.iload_n 1, 1) := by decide +kernel
theorem dX12_isOp_77 : decode cX12_isOp 77 = .ok (.ifCond .ne 10, 3) := by decide +kernel
theorem dX12_isOp_80 : decode cX12_isOp 80 = .ok (.aload_n 0, 1) := by decide +kernel
theorem dX12_isOp_81 : decode cX12_isOp 81 = .ok (.invokevirtual 114, 3) := by decide +kernel
theorem dX12_isOp_84 : decode cX12_isOp 84 = .ok (.goto 19, 3) := by decide +kernel
theorem dX12_isOp_87 : decode cX12_isOp 87 = .ok (.aload_n 0, 1) := by decide +kernel
theorem dX12_isOp_88 : decode cX12_isOp 88 = .ok (.getfield 30, 3) := by decide +kernel
theorem dX12_isOp_91 : decode cX12_isOp 91 = .ok (.aload_n 0, 1) := by decide +kernel
theorem dX12_isOp_92 : decode cX12_isOp 92 = .ok (.getfield 30, 3) := by decide +kernel
theorem dX12_isOp_95 : decode cX12_isOp 95 = .ok (.bipush 20, 2) := by decide +kernel
theorem dX12_isOp_97 : decode cX12_isOp 97 = .ok (.iload_n 2, 1) := by decide +kernel
theorem dX12_isOp_98 : decode cX12_isOp 98 = .ok (.iadd, 1) := by decide +kernel
theorem dX12_isOp_99 : decode cX12_isOp 99 = .ok (.iaload, 1) := by decide +kernel
theorem dX12_isOp_100 : decode cX12_isOp 100 = .ok (.invokestatic 96, 3) := by decide +kernel
theorem dX12_isOp_103 : decode cX12_isOp 103 = .ok (.istore 4, 2) := by decide +kernel
theorem dX12_isOp_105 : decode cX12_isOp 105 = .ok (.iload 4, 2) := by decide +kernel
theorem dX12_isOp_107 : decode cX12_isOp 107 = .ok (.iconst (-1), 1) := by decide +kernel
theorem dX12_isOp_108 : decode cX12_isOp 108 = .ok (.if_icmp .ne 5, 3) := by decide +kernel
theorem dX12_isOp_111 : decode cX12_isOp 111 = .ok (.iconst 0, 1) := by decide +kernel
theorem dX12_isOp_112 : decode cX12_isOp 112 = .ok (.ireturn, 1) := by decide +kernel
theorem dX12_isOp_113 : decode cX12_isOp 113 = .ok (.iload 4, 2) := by decide +kernel
theorem dX12_isOp_115 : decode cX12_isOp 115 = .ok (.invokestatic 76, 3) := by decide +kernel
theorem dX12_isOp_118 : decode cX12_isOp 118 = .ok (.istore 5, 2) := by decide +kernel
theorem dX12_isOp_120 : decode cX12_isOp 120 = .ok (.iload_n 1, 1) := by decide +kernel
theorem dX12_isOp_121 : decode cX12_isOp 121 = .ok (.ifCond .ne 49, 3) := by decide +kernel
theorem dX12_isOp_124 : decode cX12_isOp 124 = .ok (.aload_n 0, 1) := by decide +kernel
theorem dX12_isOp_125 : decode cX12_isOp 125 = .ok (.iload 5, 2) := by decide +kernel
theorem dX12_isOp_127 : decode cX12_isOp 127 = .ok (.iconst 1, 1) := by decide +kernel
theorem dX12_isOp_128 : decode cX12_isOp 128 = .ok (.invokevirtual 108, 3) := by decide +kernel
theorem dX12_isOp_131 : decode cX12_isOp 131 = .ok (.aload_n 0, 1) := by decide +kernel
theorem dX12_isOp_132 : decode cX12_isOp 132 = .ok (.iload 5, 2) := by decide +kernel
theorem dX12_isOp_134 : decode cX12_isOp 134 = .ok (.iconst 1, 1) := by decide +kernel
theorem dX12_isOp_135 : decode cX12_isOp 135 = .ok (.iadd, 1) := by decide +kernel
theorem dX12_isOp_136 : decode cX12_isOp 136 = .ok (.aload_n 0, 1) := by decide +kernel
theorem dX12_isOp_137 : decode cX12_isOp 137 = .ok (.getfield 30, 3) := by decide +kernel
theorem dX12_isOp_140 : decode cX12_isOp 140 = .ok (.bipush 20, 2) := by decide +kernel
theorem dX12_isOp_142 : decode cX12_isOp 142 = .ok (.iload_n 2, 1) := by decide +kernel
theorem dX12_isOp_143 : decode cX12_isOp 143 = .ok (.iadd, 1) := by decide +kernel
theorem dX12_isOp_144 : decode cX12_isOp 144 = .ok (.iaload, 1) := by decide +kernel
theorem dX12_isOp_145 : decode cX12_isOp 145 = .ok (.invokevirtual 108, 3) := by decide +kernel
theorem dX12_isOp_148 : decode cX12_isOp 148 = .ok (.aload_n 0, 1) := by decide +kernel
theorem dX12_isOp_149 : decode cX12_isOp 149 = .ok (.iload 5, 2) := by decide +kernel
theorem dX12_isOp_151 : decode cX12_isOp 151 = .ok (.iconst 2, 1) := by decide +kernel
theorem dX12_isOp_152 : decode cX12_isOp 152 = .ok (.iadd, 1) := by decide +kernel
theorem dX12_isOp_153 : decode cX12_isOp 153 = .ok (.iload_n 3, 1) := by decide +kernel
theorem dX12_isOp_154 : decode cX12_isOp 154 = .ok (.invokevirtual 108, 3) := by decide +kernel
theorem dX12_isOp_157 : decode cX12_isOp 157 = .ok (.aload_n 0, 1) := by decide +kernel
theorem dX12_isOp_158 : decode cX12_isOp 158 = .ok (.bipush 20, 2) := by decide +kernel
theorem dX12_isOp_160 : decode cX12_isOp 160 = .ok (.iload_n 2, 1) := by decide +kernel
theorem dX12_isOp_161 : decode cX12_isOp 161 = .ok (.iadd, 1) := by decide +kernel
theorem dX12_isOp_162 : decode cX12_isOp 162 = .ok (.iload 5, 2) := by decide +kernel
theorem dX12_isOp_164 : decode cX12_isOp 164 = .ok (.invokevirtual 108, 3) := by decide +kernel
theorem dX12_isOp_167 : decode cX12_isOp 167 = .ok (.goto 79, 3) := by decide +kernel
theorem dX12_isOp_170 : decode cX12_isOp 170 = .ok (.iload_n 1, 1) := by decide +kernel
theorem dX12_isOp_171 : decode cX12_isOp 171 = .ok (.iconst 1, 1) := by decide +kernel
theorem dX12_isOp_172 : decode cX12_isOp 172 = .ok (.if_icmp .ne 30, 3) := by decide +kernel
theorem dX12_isOp_175 : decode cX12_isOp 175 = .ok (.aload_n 0, 1) := by decide +kernel
theorem dX12_isOp_176 : decode cX12_isOp 176 = .ok (.bipush 20, 2) := by decide +kernel
theorem dX12_isOp_178 : decode cX12_isOp 178 = .ok (.iload_n 2, 1) := by decide +kernel
theorem dX12_isOp_179 : decode cX12_isOp 179 = .ok (.iadd, 1) := by decide +kernel
theorem dX12_isOp_180 : decode cX12_isOp 180 = .ok (.aload_n 0, 1) := by decide +kernel
theorem dX12_isOp_181 : decode cX12_isOp 181 = .ok (.getfield 30, 3) := by decide +kernel
theorem dX12_isOp_184 : decode cX12_isOp 184 = .ok (.iload 5, 2) := by decide +kernel
theorem dX12_isOp_186 : decode cX12_isOp 186 = .ok (.iconst 1, 1) := by decide +kernel
theorem dX12_isOp_187 : decode cX12_isOp 187 = .ok (.iadd, 1) := by decide +kernel
theorem dX12_isOp_188 : decode cX12_isOp 188 = .ok (.iaload, 1) := by decide +kernel
theorem dX12_isOp_189 : decode cX12_isOp 189 = .ok (.invokevirtual 108, 3) := by decide +kernel
theorem dX12_isOp_192 : decode cX12_isOp 192 = .ok (.aload_n 0, 1) := by decide +kernel
theorem dX12_isOp_193 : decode cX12_isOp 193 = .ok (.iload 5, 2) := by decide +kernel
theorem dX12_isOp_195 : decode cX12_isOp 195 = .ok (.iconst 0, 1) := by decide +kernel
theorem dX12_isOp_196 : decode cX12_isOp 196 = .ok (.invokevirtual 108, 3) := by decide +kernel
theorem dX12_isOp_199 : decode cX12_isOp 199 = .ok (.goto 47, 3) := by decide +kernel
theorem dX12_isOp_202 : decode cX12_isOp 202 = .ok (.aload_n 0, 1) := by decide +kernel
theorem dX12_isOp_203 : decode cX12_isOp 203 = .ok (.bipush 20, 2) := by decide +kernel
theorem dX12_isOp_205 : decode cX12_isOp 205 = .ok (.iload_n 2, 1) := by decide +kernel
theorem dX12_isOp_206 : decode cX12_isOp 206 = .ok (.iadd, 1) := by decide +kernel
theorem dX12_isOp_207 : decode cX12_isOp 207 = .ok (.aload_n 0, 1) := by decide +kernel
theorem dX12_isOp_208 : decode cX12_isOp 208 = .ok (.getfield 30, 3) := by decide +kernel
theorem dX12_isOp_211 : decode cX12_isOp 211 = .ok (.iload 5, 2) := by decide +kernel
theorem dX12_isOp_213 : decode cX12_isOp 213 = .ok (.iconst 1, 1) := by decide +kernel
theorem dX12_isOp_214 : decode cX12_isOp 214 = .ok (.iadd, 1) := by decide +kernel
theorem dX12_isOp_215 : decode cX12_isOp 215 = .ok (.iaload, 1) := by decide +kernel
theorem dX12_isOp_216 : decode cX12_isOp 216 = .ok (.invokevirtual 108, 3) := by decide +kernel
theorem dX12_isOp_219 : decode cX12_isOp 219 = .ok (.aload_n 0, 1) := by decide +kernel
theorem dX12_isOp_220 : decode cX12_isOp 220 = .ok (.iload 5, 2) := by decide +kernel
theorem dX12_isOp_222 : decode cX12_isOp 222 = .ok (.iconst 1, 1) := by decide +kernel
theorem dX12_isOp_223 : decode cX12_isOp 223 = .ok (.iadd, 1) := by decide +kernel
theorem dX12_isOp_224 : decode cX12_isOp 224 = .ok (.aload_n 0, 1) := by decide +kernel
theorem dX12_isOp_225 : decode cX12_isOp 225 = .ok (.getfield 30, 3) := by decide +kernel
theorem dX12_isOp_228 : decode cX12_isOp 228 = .ok (.bipush 20, 2) := by decide +kernel
theorem dX12_isOp_230 : decode cX12_isOp 230 = .ok (.iload_n 3, 1) := by decide +kernel
theorem dX12_isOp_231 : decode cX12_isOp 231 = .ok (.iadd, 1) := by decide +kernel
theorem dX12_isOp_232 : decode cX12_isOp 232 = .ok (.iaload, 1) := by decide +kernel
theorem dX12_isOp_233 : decode cX12_isOp 233 = .ok (.invokevirtual 108, 3) := by decide +kernel
theorem dX12_isOp_236 : decode cX12_isOp 236 = .ok (.aload_n 0, 1) := by decide +kernel
theorem dX12_isOp_237 : decode cX12_isOp 237 = .ok (.bipush 20, 2) := by decide +kernel
theorem dX12_isOp_239 : decode cX12_isOp 239 = .ok (.iload_n 3, 1) := by decide +kernel
theorem dX12_isOp_240 : decode cX12_isOp 240 = .ok (.iadd, 1) := by decide +kernel
theorem dX12_isOp_241 : decode cX12_isOp 241 = .ok (.iload 5, 2) := by decide +kernel
theorem dX12_isOp_243 : decode cX12_isOp 243 = .ok (.invokevirtual 108, 3) := by decide +kernel
theorem dX12_isOp_246 : decode cX12_isOp 246 = .ok (.iconst 1, 1) := by decide +kernel
theorem dX12_isOp_247 : decode cX12_isOp 247 = .ok (.ireturn, 1) := by decide +kernel
theorem dX12_laysWords_0 : decode cX12_laysWords 0 = .ok (.iconst 0, 1) := by decide +kernel
theorem dX12_laysWords_1 : decode cX12_laysWords 1 = .ok (.istore_n 2, 1) := by decide +kernel
theorem dX12_laysWords_2 : decode cX12_laysWords 2 = .ok (.iload_n 2, 1) := by decide +kernel
theorem dX12_laysWords_3 : decode cX12_laysWords 3 = .ok (.bipush 64, 2) := by decide +kernel
theorem dX12_laysWords_5 : decode cX12_laysWords 5 = .ok (.if_icmp .ge 21, 3) := by decide +kernel
theorem dX12_laysWords_8 : decode cX12_laysWords 8 = .ok (.aload_n 0, 1) := by decide +kernel
theorem dX12_laysWords_9 : decode cX12_laysWords 9 = .ok (.getfield 30, 3) := by decide +kernel
theorem dX12_laysWords_12 : decode cX12_laysWords 12 = .ok (.iload_n 2, 1) := by decide +kernel
theorem dX12_laysWords_13 : decode cX12_laysWords 13 = .ok (.aload_n 0, 1) := by decide +kernel
theorem dX12_laysWords_14 : decode cX12_laysWords 14 = .ok (.iload_n 1, 1) := by decide +kernel
theorem dX12_laysWords_15 : decode cX12_laysWords 15 = .ok (.iload_n 2, 1) := by decide +kernel
theorem dX12_laysWords_16 : decode cX12_laysWords 16 = .ok (.invokevirtual 118, 3) := by decide +kernel
theorem dX12_laysWords_19 : decode cX12_laysWords 19 = .ok (.iastore, 1) := by decide +kernel
theorem dX12_laysWords_20 : decode cX12_laysWords 20 = .ok (.iinc 2 1, 3) := by decide +kernel
theorem dX12_laysWords_23 : decode cX12_laysWords 23 = .ok (.goto (-21), 3) := by decide +kernel
theorem dX12_laysWords_26 : decode cX12_laysWords 26 = .ok (.return_, 1) := by decide +kernel
theorem dX12_isWritten_0 : decode cX12_isWritten 0 = .ok (.aload_n 0, 1) := by decide +kernel
theorem dX12_isWritten_1 : decode cX12_isWritten 1 = .ok (.iload_n 1, 1) := by decide +kernel
theorem dX12_isWritten_2 : decode cX12_isWritten 2 = .ok (.invokevirtual 122, 3) := by decide +kernel
theorem dX12_isWritten_5 : decode cX12_isWritten 5 = .ok (.aload_n 0, 1) := by decide +kernel
theorem dX12_isWritten_6 : decode cX12_isWritten 6 = .ok (.iconst 0, 1) := by decide +kernel
theorem dX12_isWritten_7 : decode cX12_isWritten 7 = .ok (.putfield 73, 3) := by decide +kernel
theorem dX12_isWritten_10 : decode cX12_isWritten 10 = .ok (.iload_n 1, 1) := by decide +kernel
theorem dX12_isWritten_11 : decode cX12_isWritten 11 = .ok (.sipush 616, 3) := by decide +kernel
theorem dX12_isWritten_14 : decode cX12_isWritten 14 = .ok (.iadd, 1) := by decide +kernel
theorem dX12_isWritten_15 : decode cX12_isWritten 15 = .ok (.istore_n 2, 1) := by decide +kernel
theorem dX12_isWritten_16 : decode cX12_isWritten 16 = .ok (.iconst 1, 1) := by decide +kernel
theorem dX12_isWritten_17 : decode cX12_isWritten 17 = .ok (.istore_n 3, 1) := by decide +kernel
theorem dX12_isWritten_18 : decode cX12_isWritten 18 = .ok (.iconst 0, 1) := by decide +kernel
theorem dX12_isWritten_19 : decode cX12_isWritten 19 = .ok (.istore 4, 2) := by decide +kernel
theorem dX12_isWritten_21 : decode cX12_isWritten 21 = .ok (.iload 4, 2) := by decide +kernel
theorem dX12_isWritten_23 : decode cX12_isWritten 23 = .ok (.aload_n 0, 1) := by decide +kernel
theorem dX12_isWritten_24 : decode cX12_isWritten 24 = .ok (.getfield 10, 3) := by decide +kernel
theorem dX12_isWritten_27 : decode cX12_isWritten 27 = .ok (.iload_n 2, 1) := by decide +kernel
theorem dX12_isWritten_28 : decode cX12_isWritten 28 = .ok (.iaload, 1) := by decide +kernel
theorem dX12_isWritten_29 : decode cX12_isWritten 29 = .ok (.if_icmp .ge 57, 3) := by decide +kernel
theorem dX12_isWritten_32 : decode cX12_isWritten 32 = .ok (.iload_n 3, 1) := by decide +kernel
theorem dX12_isWritten_33 : decode cX12_isWritten 33 = .ok (.ifCond .eq 53, 3) := by decide +kernel
theorem dX12_isWritten_36 : decode cX12_isWritten 36 = .ok (.aload_n 0, 1) := by decide +kernel
theorem dX12_isWritten_37 : decode cX12_isWritten 37 = .ok (.aload_n 0, 1) := by decide +kernel
theorem dX12_isWritten_38 : decode cX12_isWritten 38 = .ok (.getfield 10, 3) := by decide +kernel
theorem dX12_isWritten_41 : decode cX12_isWritten 41 = .ok (.iload_n 2, 1) := by decide +kernel
theorem dX12_isWritten_42 : decode cX12_isWritten 42 = .ok (.iconst 3, 1) := by decide +kernel
theorem dX12_isWritten_43 : decode cX12_isWritten 43 = .ok (.iload 4, 2) := by decide +kernel
theorem dX12_isWritten_45 : decode cX12_isWritten 45 = .ok (.imul, 1) := by decide +kernel
theorem dX12_isWritten_46 : decode cX12_isWritten 46 = .ok (.iadd, 1) := by decide +kernel
theorem dX12_isWritten_47 : decode cX12_isWritten 47 = .ok (.iconst 1, 1) := by decide +kernel
theorem dX12_isWritten_48 : decode cX12_isWritten 48 = .ok (.iadd, 1) := by decide +kernel
theorem dX12_isWritten_49 : decode cX12_isWritten 49 = .ok (.iaload, 1) := by decide +kernel
theorem dX12_isWritten_50 : decode cX12_isWritten 50 = .ok (.aload_n 0, 1) := by decide +kernel
theorem dX12_isWritten_51 : decode cX12_isWritten 51 = .ok (.getfield 10, 3) := by decide +kernel
theorem dX12_isWritten_54 : decode cX12_isWritten 54 = .ok (.iload_n 2, 1) := by decide +kernel
theorem dX12_isWritten_55 : decode cX12_isWritten 55 = .ok (.iconst 3, 1) := by decide +kernel
theorem dX12_isWritten_56 : decode cX12_isWritten 56 = .ok (.iload 4, 2) := by decide +kernel
theorem dX12_isWritten_58 : decode cX12_isWritten 58 = .ok (.imul, 1) := by decide +kernel
theorem dX12_isWritten_59 : decode cX12_isWritten 59 = .ok (.iadd, 1) := by decide +kernel
theorem dX12_isWritten_60 : decode cX12_isWritten 60 = .ok (.iconst 2, 1) := by decide +kernel
theorem dX12_isWritten_61 : decode cX12_isWritten 61 = .ok (.iadd, 1) := by decide +kernel
theorem dX12_isWritten_62 : decode cX12_isWritten 62 = .ok (.iaload, 1) := by decide +kernel
theorem dX12_isWritten_63 : decode cX12_isWritten 63 = .ok (.aload_n 0, 1) := by decide +kernel
theorem dX12_isWritten_64 : decode cX12_isWritten 64 = .ok (.getfield 10, 3) := by decide +kernel
theorem dX12_isWritten_67 : decode cX12_isWritten 67 = .ok (.iload_n 2, 1) := by decide +kernel
theorem dX12_isWritten_68 : decode cX12_isWritten 68 = .ok (.iconst 3, 1) := by decide +kernel
theorem dX12_isWritten_69 : decode cX12_isWritten 69 = .ok (.iload 4, 2) := by decide +kernel
theorem dX12_isWritten_71 : decode cX12_isWritten 71 = .ok (.imul, 1) := by decide +kernel
theorem dX12_isWritten_72 : decode cX12_isWritten 72 = .ok (.iadd, 1) := by decide +kernel
theorem dX12_isWritten_73 : decode cX12_isWritten 73 = .ok (.iconst 3, 1) := by decide +kernel
theorem dX12_isWritten_74 : decode cX12_isWritten 74 = .ok (.iadd, 1) := by decide +kernel
theorem dX12_isWritten_75 : decode cX12_isWritten 75 = .ok (.iaload, 1) := by decide +kernel
theorem dX12_isWritten_76 : decode cX12_isWritten 76 = .ok (.invokevirtual 126, 3) := by decide +kernel
theorem dX12_isWritten_79 : decode cX12_isWritten 79 = .ok (.istore_n 3, 1) := by decide +kernel
theorem dX12_isWritten_80 : decode cX12_isWritten 80 = .ok (.iinc 4 1, 3) := by decide +kernel
theorem dX12_isWritten_83 : decode cX12_isWritten 83 = .ok (.goto (-62), 3) := by decide +kernel
theorem dX12_isWritten_86 : decode cX12_isWritten 86 = .ok (.iload_n 3, 1) := by decide +kernel
theorem dX12_isWritten_87 : decode cX12_isWritten 87 = .ok (.ifCond .eq 16, 3) := by decide +kernel
theorem dX12_isWritten_90 : decode cX12_isWritten 90 = .ok (.aload_n 0, 1) := by decide +kernel
theorem dX12_isWritten_91 : decode cX12_isWritten 91 = .ok (.getfield 73, 3) := by decide +kernel
theorem dX12_isWritten_94 : decode cX12_isWritten 94 = .ok (.bipush 8, 2) := by decide +kernel
theorem dX12_isWritten_96 : decode cX12_isWritten 96 = .ok (.if_icmp .gt 7, 3) := by decide +kernel
theorem dX12_isWritten_99 : decode cX12_isWritten 99 = .ok (.iconst 1, 1) := by decide +kernel
theorem dX12_isWritten_100 : decode cX12_isWritten 100 = .ok (.goto 4, 3) := by decide +kernel
theorem dX12_isWritten_103 : decode cX12_isWritten 103 = .ok (.iconst 0, 1) := by decide +kernel
theorem dX12_isWritten_104 : decode cX12_isWritten 104 = .ok (.ireturn, 1) := by decide +kernel
theorem dX12_lays_0 : decode cX12_lays 0 = .ok (.iload_n 1, 1) := by decide +kernel
theorem dX12_lays_1 : decode cX12_lays 1 = .ok (.sipush 288, 3) := by decide +kernel
theorem dX12_lays_4 : decode cX12_lays 4 = .ok (.iadd, 1) := by decide +kernel
theorem dX12_lays_5 : decode cX12_lays 5 = .ok (.iconst 3, 1) := by decide +kernel
theorem dX12_lays_6 : decode cX12_lays 6 = .ok (.aload_n 0, 1) := by decide +kernel
theorem dX12_lays_7 : decode cX12_lays 7 = .ok (.getfield 10, 3) := by decide +kernel
theorem dX12_lays_10 : decode cX12_lays 10 = .ok (.iload_n 1, 1) := by decide +kernel
theorem dX12_lays_11 : decode cX12_lays 11 = .ok (.sipush 774, 3) := by decide +kernel
theorem dX12_lays_14 : decode cX12_lays 14 = .ok (.iadd, 1) := by decide +kernel
theorem dX12_lays_15 : decode cX12_lays 15 = .ok (.iaload, 1) := by decide +kernel
theorem dX12_lays_16 : decode cX12_lays 16 = .ok (.imul, 1) := by decide +kernel
theorem dX12_lays_17 : decode cX12_lays 17 = .ok (.iadd, 1) := by decide +kernel
theorem dX12_lays_18 : decode cX12_lays 18 = .ok (.istore 5, 2) := by decide +kernel
theorem dX12_lays_20 : decode cX12_lays 20 = .ok (.aload_n 0, 1) := by decide +kernel
theorem dX12_lays_21 : decode cX12_lays 21 = .ok (.getfield 10, 3) := by decide +kernel
theorem dX12_lays_24 : decode cX12_lays 24 = .ok (.iload 5, 2) := by decide +kernel
theorem dX12_lays_26 : decode cX12_lays 26 = .ok (.iload_n 2, 1) := by decide +kernel
theorem dX12_lays_27 : decode cX12_lays 27 = .ok (.iastore, 1) := by decide +kernel
theorem dX12_lays_28 : decode cX12_lays 28 = .ok (.aload_n 0, 1) := by decide +kernel
theorem dX12_lays_29 : decode cX12_lays 29 = .ok (.getfield 10, 3) := by decide +kernel
theorem dX12_lays_32 : decode cX12_lays 32 = .ok (.iload 5, 2) := by decide +kernel
theorem dX12_lays_34 : decode cX12_lays 34 = .ok (.iconst 1, 1) := by decide +kernel
theorem dX12_lays_35 : decode cX12_lays 35 = .ok (.iadd, 1) := by decide +kernel
theorem dX12_lays_36 : decode cX12_lays 36 = .ok (.iload_n 3, 1) := by decide +kernel
theorem dX12_lays_37 : decode cX12_lays 37 = .ok (.iastore, 1) := by decide +kernel
theorem dX12_lays_38 : decode cX12_lays 38 = .ok (.aload_n 0, 1) := by decide +kernel
theorem dX12_lays_39 : decode cX12_lays 39 = .ok (.getfield 10, 3) := by decide +kernel
theorem dX12_lays_42 : decode cX12_lays 42 = .ok (.iload 5, 2) := by decide +kernel
theorem dX12_lays_44 : decode cX12_lays 44 = .ok (.iconst 2, 1) := by decide +kernel
theorem dX12_lays_45 : decode cX12_lays 45 = .ok (.iadd, 1) := by decide +kernel
theorem dX12_lays_46 : decode cX12_lays 46 = .ok (.iload 4, 2) := by decide +kernel
theorem dX12_lays_48 : decode cX12_lays 48 = .ok (.iastore, 1) := by decide +kernel
theorem dX12_lays_49 : decode cX12_lays 49 = .ok (.aload_n 0, 1) := by decide +kernel
theorem dX12_lays_50 : decode cX12_lays 50 = .ok (.getfield 10, 3) := by decide +kernel
theorem dX12_lays_53 : decode cX12_lays 53 = .ok (.iload_n 1, 1) := by decide +kernel
theorem dX12_lays_54 : decode cX12_lays 54 = .ok (.sipush 774, 3) := by decide +kernel
theorem dX12_lays_57 : decode cX12_lays 57 = .ok (.iadd, 1) := by decide +kernel
theorem dX12_lays_58 : decode cX12_lays 58 = .ok (.dup2, 1) := by decide +kernel
theorem dX12_lays_59 : decode cX12_lays 59 = .ok (.iaload, 1) := by decide +kernel
theorem dX12_lays_60 : decode cX12_lays 60 = .ok (.iconst 1, 1) := by decide +kernel
theorem dX12_lays_61 : decode cX12_lays 61 = .ok (.iadd, 1) := by decide +kernel
theorem dX12_lays_62 : decode cX12_lays 62 = .ok (.iastore, 1) := by decide +kernel
theorem dX12_lays_63 : decode cX12_lays 63 = .ok (.return_, 1) := by decide +kernel
theorem dX12_isIn_0 : decode cX12_isIn 0 = .ok (.aload_n 0, 1) := by decide +kernel
theorem dX12_isIn_1 : decode cX12_isIn 1 = .ok (.getfield 10, 3) := by decide +kernel
theorem dX12_isIn_4 : decode cX12_isIn 4 = .ok (.iload_n 1, 1) := by decide +kernel
theorem dX12_isIn_5 : decode cX12_isIn 5 = .ok (.sipush 773, 3) := by decide +kernel
theorem dX12_isIn_8 : decode cX12_isIn 8 = .ok (.iadd, 1) := by decide +kernel
theorem dX12_isIn_9 : decode cX12_isIn 9 = .ok (.iaload, 1) := by decide +kernel
theorem dX12_isIn_10 : decode cX12_isIn 10 = .ok (.iload_n 2, 1) := by decide +kernel
theorem dX12_isIn_11 : decode cX12_isIn 11 = .ok (.iand, 1) := by decide +kernel
theorem dX12_isIn_12 : decode cX12_isIn 12 = .ok (.ifCond .ne 7, 3) := by decide +kernel
theorem dX12_isIn_15 : decode cX12_isIn 15 = .ok (.iconst 1, 1) := by decide +kernel
theorem dX12_isIn_16 : decode cX12_isIn 16 = .ok (.goto 4, 3) := by decide +kernel
theorem dX12_isIn_19 : decode cX12_isIn 19 = .ok (.iconst 0, 1) := by decide +kernel
theorem dX12_isIn_20 : decode cX12_isIn 20 = .ok (.ireturn, 1) := by decide +kernel
theorem dX12_flushes_0 : decode cX12_flushes 0 = .ok (.aload_n 0, 1) := by decide +kernel
theorem dX12_flushes_1 : decode cX12_flushes 1 = .ok (.iload_n 1, 1) := by decide +kernel
theorem dX12_flushes_2 : decode cX12_flushes 2 = .ok (.iload_n 2, 1) := by decide +kernel
theorem dX12_flushes_3 : decode cX12_flushes 3 = .ok (.invokevirtual 130, 3) := by decide +kernel
theorem dX12_flushes_6 : decode cX12_flushes 6 = .ok (.ifCond .eq 11, 3) := by decide +kernel
theorem dX12_flushes_9 : decode cX12_flushes 9 = .ok (.aload_n 0, 1) := by decide +kernel
theorem dX12_flushes_10 : decode cX12_flushes 10 = .ok (.iload_n 1, 1) := by decide +kernel
theorem dX12_flushes_11 : decode cX12_flushes 11 = .ok (.iconst 1, 1) := by decide +kernel
theorem dX12_flushes_12 : decode cX12_flushes 12 = .ok (.iload_n 3, 1) := by decide +kernel
theorem dX12_flushes_13 : decode cX12_flushes 13 = .ok (.iconst (-1), 1) := by decide +kernel
theorem dX12_flushes_14 : decode cX12_flushes 14 = .ok (.invokevirtual 134, 3) := by decide +kernel
theorem dX12_flushes_17 : decode cX12_flushes 17 = .ok (.return_, 1) := by decide +kernel
theorem dX12_fences_0 : decode cX12_fences 0 = .ok (.aload_n 0, 1) := by decide +kernel
theorem dX12_fences_1 : decode cX12_fences 1 = .ok (.iload_n 1, 1) := by decide +kernel
theorem dX12_fences_2 : decode cX12_fences 2 = .ok (.iload_n 2, 1) := by decide +kernel
theorem dX12_fences_3 : decode cX12_fences 3 = .ok (.invokevirtual 130, 3) := by decide +kernel
theorem dX12_fences_6 : decode cX12_fences 6 = .ok (.ifCond .eq 11, 3) := by decide +kernel
theorem dX12_fences_9 : decode cX12_fences 9 = .ok (.aload_n 0, 1) := by decide +kernel
theorem dX12_fences_10 : decode cX12_fences 10 = .ok (.iload_n 1, 1) := by decide +kernel
theorem dX12_fences_11 : decode cX12_fences 11 = .ok (.iconst 2, 1) := by decide +kernel
theorem dX12_fences_12 : decode cX12_fences 12 = .ok (.iconst (-1), 1) := by decide +kernel
theorem dX12_fences_13 : decode cX12_fences 13 = .ok (.iconst (-1), 1) := by decide +kernel
theorem dX12_fences_14 : decode cX12_fences 14 = .ok (.invokevirtual 134, 3) := by decide +kernel
theorem dX12_fences_17 : decode cX12_fences 17 = .ok (.return_, 1) := by decide +kernel
theorem dX12_counts_0 : decode cX12_counts 0 = .ok (.aload_n 0, 1) := by decide +kernel
theorem dX12_counts_1 : decode cX12_counts 1 = .ok (.iload_n 1, 1) := by decide +kernel
theorem dX12_counts_2 : decode cX12_counts 2 = .ok (.iconst 0, 1) := by decide +kernel
theorem dX12_counts_3 : decode cX12_counts 3 = .ok (.iconst 0, 1) := by decide +kernel
theorem dX12_counts_4 : decode cX12_counts 4 = .ok (.iload_n 2, 1) := by decide +kernel
theorem dX12_counts_5 : decode cX12_counts 5 = .ok (.invokevirtual 134, 3) := by decide +kernel
theorem dX12_counts_8 : decode cX12_counts 8 = .ok (.aload_n 0, 1) := by decide +kernel
theorem dX12_counts_9 : decode cX12_counts 9 = .ok (.iload_n 1, 1) := by decide +kernel
theorem dX12_counts_10 : decode cX12_counts 10 = .ok (.bipush 32, 2) := by decide +kernel
theorem dX12_counts_12 : decode cX12_counts 12 = .ok (.iconst 0, 1) := by decide +kernel
theorem dX12_counts_13 : decode cX12_counts 13 = .ok (.invokevirtual 138, 3) := by decide +kernel
theorem dX12_counts_16 : decode cX12_counts 16 = .ok (.return_, 1) := by decide +kernel
theorem dX12_laysEnd_0 : decode cX12_laysEnd 0 = .ok (.iconst 0, 1) := by decide +kernel
theorem dX12_laysEnd_1 : decode cX12_laysEnd 1 = .ok (.istore_n 2, 1) := by decide +kernel
theorem dX12_laysEnd_2 : decode cX12_laysEnd 2 = .ok (.iload_n 2, 1) := by decide +kernel
theorem dX12_laysEnd_3 : decode cX12_laysEnd 3 = .ok (.aload_n 0, 1) := by decide +kernel
theorem dX12_laysEnd_4 : decode cX12_laysEnd 4 = .ok (.getfield 73, 3) := by decide +kernel
theorem dX12_laysEnd_7 : decode cX12_laysEnd 7 = .ok (.if_icmp .ge 75, 3) := by decide +kernel
theorem dX12_laysEnd_10 : decode cX12_laysEnd 10 = .ok (.iconst 1, 1) := by decide +kernel
theorem dX12_laysEnd_11 : decode cX12_laysEnd 11 = .ok (.istore_n 3, 1) := by decide +kernel
theorem dX12_laysEnd_12 : decode cX12_laysEnd 12 = .ok (.iconst 0, 1) := by decide +kernel
theorem dX12_laysEnd_13 : decode cX12_laysEnd 13 = .ok (.istore 4, 2) := by decide +kernel
theorem dX12_laysEnd_15 : decode cX12_laysEnd 15 = .ok (.iload 4, 2) := by decide +kernel
theorem dX12_laysEnd_17 : decode cX12_laysEnd 17 = .ok (.iload_n 2, 1) := by decide +kernel
theorem dX12_laysEnd_18 : decode cX12_laysEnd 18 = .ok (.if_icmp .ge 39, 3) := by decide +kernel
theorem dX12_laysEnd_21 : decode cX12_laysEnd 21 = .ok (.iload_n 3, 1) := by decide +kernel
theorem dX12_laysEnd_22 : decode cX12_laysEnd 22 = .ok (.ifCond .eq 27, 3) := by decide +kernel
theorem dX12_laysEnd_25 : decode cX12_laysEnd 25 = .ok (.aload_n 0, 1) := by decide +kernel
theorem dX12_laysEnd_26 : decode cX12_laysEnd 26 = .ok (.getfield 33, 3) := by decide +kernel
theorem dX12_laysEnd_29 : decode cX12_laysEnd 29 = .ok (.iload 4, 2) := by decide +kernel
theorem dX12_laysEnd_31 : decode cX12_laysEnd 31 = .ok (.iaload, 1) := by decide +kernel
theorem dX12_laysEnd_32 : decode cX12_laysEnd 32 = .ok (.iconst 4, 1) := by decide +kernel
theorem dX12_laysEnd_33 : decode cX12_laysEnd 33 = .ok (.idiv, 1) := by decide +kernel
theorem dX12_laysEnd_34 : decode cX12_laysEnd 34 = .ok (.aload_n 0, 1) := by decide +kernel
theorem dX12_laysEnd_35 : decode cX12_laysEnd 35 = .ok (.getfield 33, 3) := by decide +kernel
theorem dX12_laysEnd_38 : decode cX12_laysEnd 38 = .ok (.iload_n 2, 1) := by decide +kernel
theorem dX12_laysEnd_39 : decode cX12_laysEnd 39 = .ok (.iaload, 1) := by decide +kernel
theorem dX12_laysEnd_40 : decode cX12_laysEnd 40 = .ok (.iconst 4, 1) := by decide +kernel
theorem dX12_laysEnd_41 : decode cX12_laysEnd 41 = .ok (.idiv, 1) := by decide +kernel
theorem dX12_laysEnd_42 : decode cX12_laysEnd 42 = .ok (.if_icmp .eq 7, 3) := by decide +kernel
theorem dX12_laysEnd_45 : decode cX12_laysEnd 45 = .ok (.iconst 1, 1) := by decide +kernel
theorem dX12_laysEnd_46 : decode cX12_laysEnd 46 = .ok (.goto 4, 3) := by decide +kernel
theorem dX12_laysEnd_49 : decode cX12_laysEnd 49 = .ok (.iconst 0, 1) := by decide +kernel
theorem dX12_laysEnd_50 : decode cX12_laysEnd 50 = .ok (.istore_n 3, 1) := by decide +kernel
theorem dX12_laysEnd_51 : decode cX12_laysEnd 51 = .ok (.iinc 4 1, 3) := by decide +kernel
theorem dX12_laysEnd_54 : decode cX12_laysEnd 54 = .ok (.goto (-39), 3) := by decide +kernel
theorem dX12_laysEnd_57 : decode cX12_laysEnd 57 = .ok (.iload_n 3, 1) := by decide +kernel
theorem dX12_laysEnd_58 : decode cX12_laysEnd 58 = .ok (.ifCond .eq 18, 3) := by decide +kernel
theorem dX12_laysEnd_61 : decode cX12_laysEnd 61 = .ok (.aload_n 0, 1) := by decide +kernel
theorem dX12_laysEnd_62 : decode cX12_laysEnd 62 = .ok (.iload_n 1, 1) := by decide +kernel
theorem dX12_laysEnd_63 : decode cX12_laysEnd 63 = .ok (.bipush 64, 2) := by decide +kernel
theorem dX12_laysEnd_65 : decode cX12_laysEnd 65 = .ok (.aload_n 0, 1) := by decide +kernel
theorem dX12_laysEnd_66 : decode cX12_laysEnd 66 = .ok (.getfield 33, 3) := by decide +kernel
theorem dX12_laysEnd_69 : decode cX12_laysEnd 69 = .ok (.iload_n 2, 1) := by decide +kernel
theorem dX12_laysEnd_70 : decode cX12_laysEnd 70 = .ok (.iaload, 1) := by decide +kernel
theorem dX12_laysEnd_71 : decode cX12_laysEnd 71 = .ok (.iconst 4, 1) := by decide +kernel
theorem dX12_laysEnd_72 : decode cX12_laysEnd 72 = .ok (.idiv, 1) := by decide +kernel
theorem dX12_laysEnd_73 : decode cX12_laysEnd 73 = .ok (.invokevirtual 138, 3) := by decide +kernel
theorem dX12_laysEnd_76 : decode cX12_laysEnd 76 = .ok (.iinc 2 1, 3) := by decide +kernel
theorem dX12_laysEnd_79 : decode cX12_laysEnd 79 = .ok (.goto (-77), 3) := by decide +kernel
theorem dX12_laysEnd_82 : decode cX12_laysEnd 82 = .ok (.aload_n 0, 1) := by decide +kernel
theorem dX12_laysEnd_83 : decode cX12_laysEnd 83 = .ok (.iload_n 1, 1) := by decide +kernel
theorem dX12_laysEnd_84 : decode cX12_laysEnd 84 = .ok (.iconst 4, 1) := by decide +kernel
theorem dX12_laysEnd_85 : decode cX12_laysEnd 85 = .ok (.invokevirtual 141, 3) := by decide +kernel
theorem dX12_laysEnd_88 : decode cX12_laysEnd 88 = .ok (.aload_n 0, 1) := by decide +kernel
theorem dX12_laysEnd_89 : decode cX12_laysEnd 89 = .ok (.iload_n 1, 1) := by decide +kernel
theorem dX12_laysEnd_90 : decode cX12_laysEnd 90 = .ok (.iconst 0, 1) := by decide +kernel
theorem dX12_laysEnd_91 : decode cX12_laysEnd 91 = .ok (.invokevirtual 144, 3) := by decide +kernel
theorem dX12_laysEnd_94 : decode cX12_laysEnd 94 = .ok (.aload_n 0, 1) := by decide +kernel
theorem dX12_laysEnd_95 : decode cX12_laysEnd 95 = .ok (.iload_n 1, 1) := by decide +kernel
theorem dX12_laysEnd_96 : decode cX12_laysEnd 96 = .ok (.bipush 8, 2) := by decide +kernel
theorem dX12_laysEnd_98 : decode cX12_laysEnd 98 = .ok (.invokevirtual 141, 3) := by decide +kernel
theorem dX12_laysEnd_101 : decode cX12_laysEnd 101 = .ok (.return_, 1) := by decide +kernel
theorem dX12_laysMicros_0 : decode cX12_laysMicros 0 = .ok (.aload_n 0, 1) := by decide +kernel
theorem dX12_laysMicros_1 : decode cX12_laysMicros 1 = .ok (.getfield 10, 3) := by decide +kernel
theorem dX12_laysMicros_4 : decode cX12_laysMicros 4 = .ok (.iload_n 1, 1) := by decide +kernel
theorem dX12_laysMicros_5 : decode cX12_laysMicros 5 = .ok (.sipush 774, 3) := by decide +kernel
theorem dX12_laysMicros_8 : decode cX12_laysMicros 8 = .ok (.iadd, 1) := by decide +kernel
theorem dX12_laysMicros_9 : decode cX12_laysMicros 9 = .ok (.iconst 0, 1) := by decide +kernel
theorem dX12_laysMicros_10 : decode cX12_laysMicros 10 = .ok (.iastore, 1) := by decide +kernel
theorem dX12_laysMicros_11 : decode cX12_laysMicros 11 = .ok (.aload_n 0, 1) := by decide +kernel
theorem dX12_laysMicros_12 : decode cX12_laysMicros 12 = .ok (.getfield 10, 3) := by decide +kernel
theorem dX12_laysMicros_15 : decode cX12_laysMicros 15 = .ok (.iload_n 1, 1) := by decide +kernel
theorem dX12_laysMicros_16 : decode cX12_laysMicros 16 = .ok (.sipush 775, 3) := by decide +kernel
theorem dX12_laysMicros_19 : decode cX12_laysMicros 19 = .ok (.iadd, 1) := by decide +kernel
theorem dX12_laysMicros_20 : decode cX12_laysMicros 20 = .ok (.iconst 0, 1) := by decide +kernel
theorem dX12_laysMicros_21 : decode cX12_laysMicros 21 = .ok (.iastore, 1) := by decide +kernel
theorem dX12_laysMicros_22 : decode cX12_laysMicros 22 = .ok (.aload_n 0, 1) := by decide +kernel
theorem dX12_laysMicros_23 : decode cX12_laysMicros 23 = .ok (.iload_n 1, 1) := by decide +kernel
theorem dX12_laysMicros_24 : decode cX12_laysMicros 24 = .ok (.invokevirtual 122, 3) := by decide +kernel
theorem dX12_laysMicros_27 : decode cX12_laysMicros 27 = .ok (.iconst 0, 1) := by decide +kernel
theorem dX12_laysMicros_28 : decode cX12_laysMicros 28 = .ok (.istore_n 2, 1) := by decide +kernel
theorem dX12_laysMicros_29 : decode cX12_laysMicros 29 = .ok (.iload_n 2, 1) := by decide +kernel
theorem dX12_laysMicros_30 : decode cX12_laysMicros 30 = .ok (.aload_n 0, 1) := by decide +kernel
theorem dX12_laysMicros_31 : decode cX12_laysMicros 31 = .ok (.getfield 73, 3) := by decide +kernel
theorem dX12_laysMicros_34 : decode cX12_laysMicros 34 = .ok (.if_icmp .ge 141, 3) := by decide +kernel
theorem dX12_laysMicros_37 : decode cX12_laysMicros 37 = .ok (.iconst 4, 1) := by decide +kernel
theorem dX12_laysMicros_38 : decode cX12_laysMicros 38 = .ok (.iconst 2, 1) := by decide +kernel
theorem dX12_laysMicros_39 : decode cX12_laysMicros 39 = .ok (.iload_n 2, 1) := by decide +kernel
theorem dX12_laysMicros_40 : decode cX12_laysMicros 40 = .ok (.imul, 1) := by decide +kernel
theorem dX12_laysMicros_41 : decode cX12_laysMicros 41 = .ok (.iadd, 1) := by decide +kernel
theorem dX12_laysMicros_42 : decode cX12_laysMicros 42 = .ok (.istore_n 3, 1) := by decide +kernel
theorem dX12_laysMicros_43 : decode cX12_laysMicros 43 = .ok (.aload_n 0, 1) := by decide +kernel
theorem dX12_laysMicros_44 : decode cX12_laysMicros 44 = .ok (.iload_n 1, 1) := by decide +kernel
theorem dX12_laysMicros_45 : decode cX12_laysMicros 45 = .ok (.iconst 0, 1) := by decide +kernel
theorem dX12_laysMicros_46 : decode cX12_laysMicros 46 = .ok (.iload_n 3, 1) := by decide +kernel
theorem dX12_laysMicros_47 : decode cX12_laysMicros 47 = .ok (.aload_n 0, 1) := by decide +kernel
theorem dX12_laysMicros_48 : decode cX12_laysMicros 48 = .ok (.getfield 33, 3) := by decide +kernel
theorem dX12_laysMicros_51 : decode cX12_laysMicros 51 = .ok (.iload_n 2, 1) := by decide +kernel
theorem dX12_laysMicros_52 : decode cX12_laysMicros 52 = .ok (.iaload, 1) := by decide +kernel
theorem dX12_laysMicros_53 : decode cX12_laysMicros 53 = .ok (.invokevirtual 134, 3) := by decide +kernel
theorem dX12_laysMicros_56 : decode cX12_laysMicros 56 = .ok (.aload_n 0, 1) := by decide +kernel
theorem dX12_laysMicros_57 : decode cX12_laysMicros 57 = .ok (.iload_n 1, 1) := by decide +kernel
theorem dX12_laysMicros_58 : decode cX12_laysMicros 58 = .ok (.iconst 0, 1) := by decide +kernel
theorem dX12_laysMicros_59 : decode cX12_laysMicros 59 = .ok (.iload_n 3, 1) := by decide +kernel
theorem dX12_laysMicros_60 : decode cX12_laysMicros 60 = .ok (.iconst 1, 1) := by decide +kernel
theorem dX12_laysMicros_61 : decode cX12_laysMicros 61 = .ok (.iadd, 1) := by decide +kernel
theorem dX12_laysMicros_62 : decode cX12_laysMicros 62 = .ok (.aload_n 0, 1) := by decide +kernel
theorem dX12_laysMicros_63 : decode cX12_laysMicros 63 = .ok (.getfield 147, 3) := by decide +kernel
theorem dX12_laysMicros_66 : decode cX12_laysMicros 66 = .ok (.iconst 1, 1) := by decide +kernel
theorem dX12_laysMicros_67 : decode cX12_laysMicros 67 = .ok (.if_icmp .ne 12, 3) := by decide +kernel
theorem dX12_laysMicros_70 : decode cX12_laysMicros 70 = .ok (.aload_n 0, 1) := by decide +kernel
theorem dX12_laysMicros_71 : decode cX12_laysMicros 71 = .ok (.getfield 36, 3) := by decide +kernel
theorem dX12_laysMicros_74 : decode cX12_laysMicros 74 = .ok (.iload_n 2, 1) := by decide +kernel
theorem dX12_laysMicros_75 : decode cX12_laysMicros 75 = .ok (.iaload, 1) := by decide +kernel
theorem dX12_laysMicros_76 : decode cX12_laysMicros 76 = .ok (.goto 14, 3) := by decide +kernel
theorem dX12_laysMicros_79 : decode cX12_laysMicros 79 = .ok (.aload_n 0, 1) := by decide +kernel
theorem dX12_laysMicros_80 : decode cX12_laysMicros 80 = .ok (.getfield 30, 3) := by decide +kernel
theorem dX12_laysMicros_83 : decode cX12_laysMicros 83 = .ok (.aload_n 0, 1) := by decide +kernel
theorem dX12_laysMicros_84 : decode cX12_laysMicros 84 = .ok (.getfield 33, 3) := by decide +kernel
theorem dX12_laysMicros_87 : decode cX12_laysMicros 87 = .ok (.iload_n 2, 1) := by decide +kernel
theorem dX12_laysMicros_88 : decode cX12_laysMicros 88 = .ok (.iaload, 1) := by decide +kernel
theorem dX12_laysMicros_89 : decode cX12_laysMicros 89 = .ok (.iaload, 1) := by decide +kernel
theorem dX12_laysMicros_90 : decode cX12_laysMicros 90 = .ok (.invokevirtual 134, 3) := by decide +kernel
theorem dX12_laysMicros_93 : decode cX12_laysMicros 93 = .ok (.aload_n 0, 1) := by decide +kernel
theorem dX12_laysMicros_94 : decode cX12_laysMicros 94 = .ok (.iload_n 1, 1) := by decide +kernel
theorem dX12_laysMicros_95 : decode cX12_laysMicros 95 = .ok (.bipush 16, 2) := by decide +kernel
theorem dX12_laysMicros_97 : decode cX12_laysMicros 97 = .ok (.iload_n 3, 1) := by decide +kernel
theorem dX12_laysMicros_98 : decode cX12_laysMicros 98 = .ok (.iconst 4, 1) := by decide +kernel
theorem dX12_laysMicros_99 : decode cX12_laysMicros 99 = .ok (.idiv, 1) := by decide +kernel
theorem dX12_laysMicros_100 : decode cX12_laysMicros 100 = .ok (.invokevirtual 138, 3) := by decide +kernel
theorem dX12_laysMicros_103 : decode cX12_laysMicros 103 = .ok (.aload_n 0, 1) := by decide +kernel
theorem dX12_laysMicros_104 : decode cX12_laysMicros 104 = .ok (.getfield 147, 3) := by decide +kernel
theorem dX12_laysMicros_107 : decode cX12_laysMicros 107 = .ok (.iconst 1, 1) := by decide +kernel
theorem dX12_laysMicros_108 : decode cX12_laysMicros 108 = .ok (.if_icmp .ne 6, 3) := by decide +kernel
theorem dX12_laysMicros_111 : decode cX12_laysMicros 111 = .ok (.goto 58, 3) := by decide +kernel
theorem dX12_laysMicros_114 : decode cX12_laysMicros 114 = .ok (.aload_n 0, 1) := by decide +kernel
theorem dX12_laysMicros_115 : decode cX12_laysMicros 115 = .ok (.iload_n 1, 1) := by decide +kernel
theorem dX12_laysMicros_116 : decode cX12_laysMicros 116 = .ok (.iconst 1, 1) := by decide +kernel
theorem dX12_laysMicros_117 : decode cX12_laysMicros 117 = .ok (.invokevirtual 141, 3) := by decide +kernel
theorem dX12_laysMicros_120 : decode cX12_laysMicros 120 = .ok (.aload_n 0, 1) := by decide +kernel
theorem dX12_laysMicros_121 : decode cX12_laysMicros 121 = .ok (.iload_n 1, 1) := by decide +kernel
theorem dX12_laysMicros_122 : decode cX12_laysMicros 122 = .ok (.iload_n 2, 1) := by decide +kernel
theorem dX12_laysMicros_123 : decode cX12_laysMicros 123 = .ok (.iconst 1, 1) := by decide +kernel
theorem dX12_laysMicros_124 : decode cX12_laysMicros 124 = .ok (.iadd, 1) := by decide +kernel
theorem dX12_laysMicros_125 : decode cX12_laysMicros 125 = .ok (.invokevirtual 144, 3) := by decide +kernel
theorem dX12_laysMicros_128 : decode cX12_laysMicros 128 = .ok (.aload_n 0, 1) := by decide +kernel
theorem dX12_laysMicros_129 : decode cX12_laysMicros 129 = .ok (.iload_n 1, 1) := by decide +kernel
theorem dX12_laysMicros_130 : decode cX12_laysMicros 130 = .ok (.iconst 2, 1) := by decide +kernel
theorem dX12_laysMicros_131 : decode cX12_laysMicros 131 = .ok (.invokevirtual 141, 3) := by decide +kernel
theorem dX12_laysMicros_134 : decode cX12_laysMicros 134 = .ok (.aload_n 0, 1) := by decide +kernel
theorem dX12_laysMicros_135 : decode cX12_laysMicros 135 = .ok (.iload_n 1, 1) := by decide +kernel
theorem dX12_laysMicros_136 : decode cX12_laysMicros 136 = .ok (.iconst 0, 1) := by decide +kernel
theorem dX12_laysMicros_137 : decode cX12_laysMicros 137 = .ok (.aload_n 0, 1) := by decide +kernel
theorem dX12_laysMicros_138 : decode cX12_laysMicros 138 = .ok (.getfield 33, 3) := by decide +kernel
theorem dX12_laysMicros_141 : decode cX12_laysMicros 141 = .ok (.iload_n 2, 1) := by decide +kernel
theorem dX12_laysMicros_142 : decode cX12_laysMicros 142 = .ok (.iaload, 1) := by decide +kernel
theorem dX12_laysMicros_143 : decode cX12_laysMicros 143 = .ok (.aload_n 0, 1) := by decide +kernel
theorem dX12_laysMicros_144 : decode cX12_laysMicros 144 = .ok (.getfield 36, 3) := by decide +kernel
theorem dX12_laysMicros_147 : decode cX12_laysMicros 147 = .ok (.iload_n 2, 1) := by decide +kernel
theorem dX12_laysMicros_148 : decode cX12_laysMicros 148 = .ok (.iaload, 1) := by decide +kernel
theorem dX12_laysMicros_149 : decode cX12_laysMicros 149 = .ok (.invokevirtual 134, 3) := by decide +kernel
theorem dX12_laysMicros_152 : decode cX12_laysMicros 152 = .ok (.aload_n 0, 1) := by decide +kernel
theorem dX12_laysMicros_153 : decode cX12_laysMicros 153 = .ok (.getfield 30, 3) := by decide +kernel
theorem dX12_laysMicros_156 : decode cX12_laysMicros 156 = .ok (.aload_n 0, 1) := by decide +kernel
theorem dX12_laysMicros_157 : decode cX12_laysMicros 157 = .ok (.getfield 33, 3) := by decide +kernel
theorem dX12_laysMicros_160 : decode cX12_laysMicros 160 = .ok (.iload_n 2, 1) := by decide +kernel
theorem dX12_laysMicros_161 : decode cX12_laysMicros 161 = .ok (.iaload, 1) := by decide +kernel
theorem dX12_laysMicros_162 : decode cX12_laysMicros 162 = .ok (.aload_n 0, 1) := by decide +kernel
theorem dX12_laysMicros_163 : decode cX12_laysMicros 163 = .ok (.getfield 36, 3) := by decide +kernel
theorem dX12_laysMicros_166 : decode cX12_laysMicros 166 = .ok (.iload_n 2, 1) := by decide +kernel
theorem dX12_laysMicros_167 : decode cX12_laysMicros 167 = .ok (.iaload, 1) := by decide +kernel
theorem dX12_laysMicros_168 : decode cX12_laysMicros 168 = .ok (.iastore, 1) := by decide +kernel
theorem dX12_laysMicros_169 : decode cX12_laysMicros 169 = .ok (.iinc 2 1, 3) := by decide +kernel
theorem dX12_laysMicros_172 : decode cX12_laysMicros 172 = .ok (.goto (-143), 3) := by decide +kernel
theorem dX12_laysMicros_175 : decode cX12_laysMicros 175 = .ok (.aload_n 0, 1) := by decide +kernel
theorem dX12_laysMicros_176 : decode cX12_laysMicros 176 = .ok (.getfield 147, 3) := by decide +kernel
theorem dX12_laysMicros_179 : decode cX12_laysMicros 179 = .ok (.iconst 1, 1) := by decide +kernel
theorem dX12_laysMicros_180 : decode cX12_laysMicros 180 = .ok (.if_icmp .ne 58, 3) := by decide +kernel
theorem dX12_laysMicros_183 : decode cX12_laysMicros 183 = .ok (.aload_n 0, 1) := by decide +kernel
theorem dX12_laysMicros_184 : decode cX12_laysMicros 184 = .ok (.iload_n 1, 1) := by decide +kernel
theorem dX12_laysMicros_185 : decode cX12_laysMicros 185 = .ok (.iconst 1, 1) := by decide +kernel
theorem dX12_laysMicros_186 : decode cX12_laysMicros 186 = .ok (.invokevirtual 141, 3) := by decide +kernel
theorem dX12_laysMicros_189 : decode cX12_laysMicros 189 = .ok (.aload_n 0, 1) := by decide +kernel
theorem dX12_laysMicros_190 : decode cX12_laysMicros 190 = .ok (.iload_n 1, 1) := by decide +kernel
theorem dX12_laysMicros_191 : decode cX12_laysMicros 191 = .ok (.aload_n 0, 1) := by decide +kernel
theorem dX12_laysMicros_192 : decode cX12_laysMicros 192 = .ok (.getfield 73, 3) := by decide +kernel
theorem dX12_laysMicros_195 : decode cX12_laysMicros 195 = .ok (.invokevirtual 144, 3) := by decide +kernel
theorem dX12_laysMicros_198 : decode cX12_laysMicros 198 = .ok (.aload_n 0, 1) := by decide +kernel
theorem dX12_laysMicros_199 : decode cX12_laysMicros 199 = .ok (.iload_n 1, 1) := by decide +kernel
theorem dX12_laysMicros_200 : decode cX12_laysMicros 200 = .ok (.iconst 2, 1) := by decide +kernel
theorem dX12_laysMicros_201 : decode cX12_laysMicros 201 = .ok (.invokevirtual 141, 3) := by decide +kernel
theorem dX12_laysMicros_204 : decode cX12_laysMicros 204 = .ok (.iconst 0, 1) := by decide +kernel
theorem dX12_laysMicros_205 : decode cX12_laysMicros 205 = .ok (.istore_n 2, 1) := by decide +kernel
theorem dX12_laysMicros_206 : decode cX12_laysMicros 206 = .ok (.iload_n 2, 1) := by decide +kernel
theorem dX12_laysMicros_207 : decode cX12_laysMicros 207 = .ok (.aload_n 0, 1) := by decide +kernel
theorem dX12_laysMicros_208 : decode cX12_laysMicros 208 = .ok (.getfield 73, 3) := by decide +kernel
theorem dX12_laysMicros_211 : decode cX12_laysMicros 211 = .ok (.if_icmp .ge 27, 3) := by decide +kernel
theorem dX12_laysMicros_214 : decode cX12_laysMicros 214 = .ok (.aload_n 0, 1) := by decide +kernel
theorem dX12_laysMicros_215 : decode cX12_laysMicros 215 = .ok (.iload_n 1, 1) := by decide +kernel
theorem dX12_laysMicros_216 : decode cX12_laysMicros 216 = .ok (.iconst 0, 1) := by decide +kernel
theorem dX12_laysMicros_217 : decode cX12_laysMicros 217 = .ok (.aload_n 0, 1) := by decide +kernel
theorem dX12_laysMicros_218 : decode cX12_laysMicros 218 = .ok (.getfield 33, 3) := by decide +kernel
theorem dX12_laysMicros_221 : decode cX12_laysMicros 221 = .ok (.iload_n 2, 1) := by decide +kernel
theorem dX12_laysMicros_222 : decode cX12_laysMicros 222 = .ok (.iaload, 1) := by decide +kernel
theorem dX12_laysMicros_223 : decode cX12_laysMicros 223 = .ok (.aload_n 0, 1) := by decide +kernel
theorem dX12_laysMicros_224 : decode cX12_laysMicros 224 = .ok (.getfield 36, 3) := by decide +kernel
theorem dX12_laysMicros_227 : decode cX12_laysMicros 227 = .ok (.iload_n 2, 1) := by decide +kernel
theorem dX12_laysMicros_228 : decode cX12_laysMicros 228 = .ok (.iaload, 1) := by decide +kernel
theorem dX12_laysMicros_229 : decode cX12_laysMicros 229 = .ok (.invokevirtual 134, 3) := by decide +kernel
theorem dX12_laysMicros_232 : decode cX12_laysMicros 232 = .ok (.iinc 2 1, 3) := by decide +kernel
theorem dX12_laysMicros_235 : decode cX12_laysMicros 235 = .ok (.goto (-29), 3) := by decide +kernel
theorem dX12_laysMicros_238 : decode cX12_laysMicros 238 = .ok (.aload_n 0, 1) := by decide +kernel
theorem dX12_laysMicros_239 : decode cX12_laysMicros 239 = .ok (.iload_n 1, 1) := by decide +kernel
theorem dX12_laysMicros_240 : decode cX12_laysMicros 240 = .ok (.invokevirtual 150, 3) := by decide +kernel
theorem dX12_laysMicros_243 : decode cX12_laysMicros 243 = .ok (.return_, 1) := by decide +kernel
theorem dX12_isBegun_0 : decode cX12_isBegun 0 = .ok (.aload_n 0, 1) := by decide +kernel
theorem dX12_isBegun_1 : decode cX12_isBegun 1 = .ok (.getfield 10, 3) := by decide +kernel
theorem dX12_isBegun_4 : decode cX12_isBegun 4 = .ok (.iload_n 1, 1) := by decide +kernel
theorem dX12_isBegun_5 : decode cX12_isBegun 5 = .ok (.sipush 777, 3) := by decide +kernel
theorem dX12_isBegun_8 : decode cX12_isBegun 8 = .ok (.iadd, 1) := by decide +kernel
theorem dX12_isBegun_9 : decode cX12_isBegun 9 = .ok (.iaload, 1) := by decide +kernel
theorem dX12_isBegun_10 : decode cX12_isBegun 10 = .ok (.ifCond .le 183, 3) := by decide +kernel
theorem dX12_isBegun_13 : decode cX12_isBegun 13 = .ok (.aload_n 0, 1) := by decide +kernel
theorem dX12_isBegun_14 : decode cX12_isBegun 14 = .ok (.iload_n 1, 1) := by decide +kernel
theorem dX12_isBegun_15 : decode cX12_isBegun 15 = .ok (.invokevirtual 153, 3) := by decide +kernel
theorem dX12_isBegun_18 : decode cX12_isBegun 18 = .ok (.istore_n 2, 1) := by decide +kernel
theorem dX12_isBegun_19 : decode cX12_isBegun 19 = .ok (.sipush 616, 3) := by decide +kernel
theorem dX12_isBegun_22 : decode cX12_isBegun 22 = .ok (.bipush 13, 2) := by decide +kernel
theorem dX12_isBegun_24 : decode cX12_isBegun 24 = .ok (.aload_n 0, 1) := by decide +kernel
theorem dX12_isBegun_25 : decode cX12_isBegun 25 = .ok (.getfield 10, 3) := by decide +kernel
theorem dX12_isBegun_28 : decode cX12_isBegun 28 = .ok (.iload_n 1, 1) := by decide +kernel
theorem dX12_isBegun_29 : decode cX12_isBegun 29 = .ok (.sipush 777, 3) := by decide +kernel
theorem dX12_isBegun_32 : decode cX12_isBegun 32 = .ok (.iadd, 1) := by decide +kernel
theorem dX12_isBegun_33 : decode cX12_isBegun 33 = .ok (.iaload, 1) := by decide +kernel
theorem dX12_isBegun_34 : decode cX12_isBegun 34 = .ok (.imul, 1) := by decide +kernel
theorem dX12_isBegun_35 : decode cX12_isBegun 35 = .ok (.iadd, 1) := by decide +kernel
theorem dX12_isBegun_36 : decode cX12_isBegun 36 = .ok (.bipush 13, 2) := by decide +kernel
theorem dX12_isBegun_38 : decode cX12_isBegun 38 = .ok (.isub, 1) := by decide +kernel
theorem dX12_isBegun_39 : decode cX12_isBegun 39 = .ok (.istore_n 3, 1) := by decide +kernel
theorem dX12_isBegun_40 : decode cX12_isBegun 40 = .ok (.sipush 616, 3) := by decide +kernel
theorem dX12_isBegun_43 : decode cX12_isBegun 43 = .ok (.istore 4, 2) := by decide +kernel
theorem dX12_isBegun_45 : decode cX12_isBegun 45 = .ok (.iload 4, 2) := by decide +kernel
theorem dX12_isBegun_47 : decode cX12_isBegun 47 = .ok (.iload_n 3, 1) := by decide +kernel
theorem dX12_isBegun_48 : decode cX12_isBegun 48 = .ok (.if_icmp .ge 30, 3) := by decide +kernel
theorem dX12_isBegun_51 : decode cX12_isBegun 51 = .ok (.aload_n 0, 1) := by decide +kernel
theorem dX12_isBegun_52 : decode cX12_isBegun 52 = .ok (.getfield 10, 3) := by decide +kernel
theorem dX12_isBegun_55 : decode cX12_isBegun 55 = .ok (.iload_n 1, 1) := by decide +kernel
theorem dX12_isBegun_56 : decode cX12_isBegun 56 = .ok (.iload 4, 2) := by decide +kernel
theorem dX12_isBegun_58 : decode cX12_isBegun 58 = .ok (.iadd, 1) := by decide +kernel
theorem dX12_isBegun_59 : decode cX12_isBegun 59 = .ok (.aload_n 0, 1) := by decide +kernel
theorem dX12_isBegun_60 : decode cX12_isBegun 60 = .ok (.getfield 10, 3) := by decide +kernel
theorem dX12_isBegun_63 : decode cX12_isBegun 63 = .ok (.iload_n 1, 1) := by decide +kernel
theorem dX12_isBegun_64 : decode cX12_isBegun 64 = .ok (.iload 4, 2) := by decide +kernel
theorem dX12_isBegun_66 : decode cX12_isBegun 66 = .ok (.iadd, 1) := by decide +kernel
theorem dX12_isBegun_67 : decode cX12_isBegun 67 = .ok (.bipush 13, 2) := by decide +kernel
theorem dX12_isBegun_69 : decode cX12_isBegun 69 = .ok (.iadd, 1) := by decide +kernel
theorem dX12_isBegun_70 : decode cX12_isBegun 70 = .ok (.iaload, 1) := by decide +kernel
theorem dX12_isBegun_71 : decode cX12_isBegun 71 = .ok (.iastore, 1) := by decide +kernel
theorem dX12_isBegun_72 : decode cX12_isBegun 72 = .ok (.iinc 4 1, 3) := by decide +kernel
theorem dX12_isBegun_75 : decode cX12_isBegun 75 = .ok (.goto (-30), 3) := by decide +kernel
theorem dX12_isBegun_78 : decode cX12_isBegun 78 = .ok (.aload_n 0, 1) := by decide +kernel
theorem dX12_isBegun_79 : decode cX12_isBegun 79 = .ok (.getfield 10, 3) := by decide +kernel
theorem dX12_isBegun_82 : decode cX12_isBegun 82 = .ok (.iload_n 1, 1) := by decide +kernel
theorem dX12_isBegun_83 : decode cX12_isBegun 83 = .ok (.sipush 777, 3) := by decide +kernel
theorem dX12_isBegun_86 : decode cX12_isBegun 86 = .ok (.iadd, 1) := by decide +kernel
theorem dX12_isBegun_87 : decode cX12_isBegun 87 = .ok (.dup2, 1) := by decide +kernel
theorem dX12_isBegun_88 : decode cX12_isBegun 88 = .ok (.iaload, 1) := by decide +kernel
theorem dX12_isBegun_89 : decode cX12_isBegun 89 = .ok (.iconst 1, 1) := by decide +kernel
theorem dX12_isBegun_90 : decode cX12_isBegun 90 = .ok (.isub, 1) := by decide +kernel
theorem dX12_isBegun_91 : decode cX12_isBegun 91 = .ok (.iastore, 1) := by decide +kernel
theorem dX12_isBegun_92 : decode cX12_isBegun 92 = .ok (.iload_n 2, 1) := by decide +kernel
theorem dX12_isBegun_93 : decode cX12_isBegun 93 = .ok (.ifCond .ne 20, 3) := by decide +kernel
theorem dX12_isBegun_96 : decode cX12_isBegun 96 = .ok (.aload_n 0, 1) := by decide +kernel
theorem dX12_isBegun_97 : decode cX12_isBegun 97 = .ok (.getfield 10, 3) := by decide +kernel
theorem dX12_isBegun_100 : decode cX12_isBegun 100 = .ok (.iload_n 1, 1) := by decide +kernel
theorem dX12_isBegun_101 : decode cX12_isBegun 101 = .ok (.sipush 779, 3) := by decide +kernel
theorem dX12_isBegun_104 : decode cX12_isBegun 104 = .ok (.iadd, 1) := by decide +kernel
theorem dX12_isBegun_105 : decode cX12_isBegun 105 = .ok (.dup2, 1) := by decide +kernel
theorem dX12_isBegun_106 : decode cX12_isBegun 106 = .ok (.iaload, 1) := by decide +kernel
theorem dX12_isBegun_107 : decode cX12_isBegun 107 = .ok (.iconst 1, 1) := by decide +kernel
theorem dX12_isBegun_108 : decode cX12_isBegun 108 = .ok (.iadd, 1) := by decide +kernel
theorem dX12_isBegun_109 : decode cX12_isBegun 109 = .ok (.iastore, 1) := by decide +kernel
theorem dX12_isBegun_110 : decode cX12_isBegun 110 = .ok (.goto (-110), 3) := by decide +kernel
theorem dX12_isBegun_113 : decode cX12_isBegun 113 = .ok (.iconst 0, 1) := by decide +kernel
theorem dX12_isBegun_114 : decode cX12_isBegun 114 = .ok (.istore 4, 2) := by decide +kernel
theorem dX12_isBegun_116 : decode cX12_isBegun 116 = .ok (.iload 4, 2) := by decide +kernel
theorem dX12_isBegun_118 : decode cX12_isBegun 118 = .ok (.bipush 44, 2) := by decide +kernel
theorem dX12_isBegun_120 : decode cX12_isBegun 120 = .ok (.if_icmp .ge 55, 3) := by decide +kernel
theorem dX12_isBegun_123 : decode cX12_isBegun 123 = .ok (.aload_n 0, 1) := by decide +kernel
theorem dX12_isBegun_124 : decode cX12_isBegun 124 = .ok (.getfield 10, 3) := by decide +kernel
theorem dX12_isBegun_127 : decode cX12_isBegun 127 = .ok (.iload_n 1, 1) := by decide +kernel
theorem dX12_isBegun_128 : decode cX12_isBegun 128 = .ok (.sipush 572, 3) := by decide +kernel
theorem dX12_isBegun_131 : decode cX12_isBegun 131 = .ok (.iadd, 1) := by decide +kernel
theorem dX12_isBegun_132 : decode cX12_isBegun 132 = .ok (.iload 4, 2) := by decide +kernel
theorem dX12_isBegun_134 : decode cX12_isBegun 134 = .ok (.iadd, 1) := by decide +kernel
theorem dX12_isBegun_135 : decode cX12_isBegun 135 = .ok (.aload_n 0, 1) := by decide +kernel
theorem dX12_isBegun_136 : decode cX12_isBegun 136 = .ok (.getfield 30, 3) := by decide +kernel
theorem dX12_isBegun_139 : decode cX12_isBegun 139 = .ok (.bipush 20, 2) := by decide +kernel
theorem dX12_isBegun_141 : decode cX12_isBegun 141 = .ok (.iload 4, 2) := by decide +kernel
theorem dX12_isBegun_143 : decode cX12_isBegun 143 = .ok (.iadd, 1) := by decide +kernel
theorem dX12_isBegun_144 : decode cX12_isBegun 144 = .ok (.iaload, 1) := by decide +kernel
theorem dX12_isBegun_145 : decode cX12_isBegun 145 = .ok (.iastore, 1) := by decide +kernel
theorem dX12_isBegun_146 : decode cX12_isBegun 146 = .ok (.aload_n 0, 1) := by decide +kernel
theorem dX12_isBegun_147 : decode cX12_isBegun 147 = .ok (.getfield 10, 3) := by decide +kernel
theorem dX12_isBegun_150 : decode cX12_isBegun 150 = .ok (.iload_n 1, 1) := by decide +kernel
theorem dX12_isBegun_151 : decode cX12_isBegun 151 = .ok (.sipush 528, 3) := by decide +kernel
theorem dX12_isBegun_154 : decode cX12_isBegun 154 = .ok (.iadd, 1) := by decide +kernel
theorem dX12_isBegun_155 : decode cX12_isBegun 155 = .ok (.iload 4, 2) := by decide +kernel
theorem dX12_isBegun_157 : decode cX12_isBegun 157 = .ok (.iadd, 1) := by decide +kernel
theorem dX12_isBegun_158 : decode cX12_isBegun 158 = .ok (.aload_n 0, 1) := by decide +kernel
theorem dX12_isBegun_159 : decode cX12_isBegun 159 = .ok (.iload_n 1, 1) := by decide +kernel
theorem dX12_isBegun_160 : decode cX12_isBegun 160 = .ok (.bipush 20, 2) := by decide +kernel
theorem dX12_isBegun_162 : decode cX12_isBegun 162 = .ok (.iload 4, 2) := by decide +kernel
theorem dX12_isBegun_164 : decode cX12_isBegun 164 = .ok (.iadd, 1) := by decide +kernel
theorem dX12_isBegun_165 : decode cX12_isBegun 165 = .ok (.invokevirtual 118, 3) := by decide +kernel
theorem dX12_isBegun_168 : decode cX12_isBegun 168 = .ok (.iastore, 1) := by decide +kernel
theorem dX12_isBegun_169 : decode cX12_isBegun 169 = .ok (.iinc 4 1, 3) := by decide +kernel
theorem dX12_isBegun_172 : decode cX12_isBegun 172 = .ok (.goto (-56), 3) := by decide +kernel
theorem dX12_isBegun_175 : decode cX12_isBegun 175 = .ok (.aload_n 0, 1) := by decide +kernel
theorem dX12_isBegun_176 : decode cX12_isBegun 176 = .ok (.iload_n 1, 1) := by decide +kernel
theorem dX12_isBegun_177 : decode cX12_isBegun 177 = .ok (.invokevirtual 157, 3) := by decide +kernel
theorem dX12_isBegun_180 : decode cX12_isBegun 180 = .ok (.aload_n 0, 1) := by decide +kernel
theorem dX12_isBegun_181 : decode cX12_isBegun 181 = .ok (.getfield 10, 3) := by decide +kernel
theorem dX12_isBegun_184 : decode cX12_isBegun 184 = .ok (.iload_n 1, 1) := by decide +kernel
theorem dX12_isBegun_185 : decode cX12_isBegun 185 = .ok (.sipush 776, 3) := by decide +kernel
theorem dX12_isBegun_188 : decode cX12_isBegun 188 = .ok (.iadd, 1) := by decide +kernel
theorem dX12_isBegun_189 : decode cX12_isBegun 189 = .ok (.iconst 1, 1) := by decide +kernel
theorem dX12_isBegun_190 : decode cX12_isBegun 190 = .ok (.iastore, 1) := by decide +kernel
theorem dX12_isBegun_191 : decode cX12_isBegun 191 = .ok (.iconst 1, 1) := by decide +kernel
theorem dX12_isBegun_192 : decode cX12_isBegun 192 = .ok (.ireturn, 1) := by decide +kernel
theorem dX12_isBegun_193 : decode cX12_isBegun 193 = .ok (.iconst 0, 1) := by decide +kernel
theorem dX12_isBegun_194 : decode cX12_isBegun 194 = .ok (.ireturn, 1) := by decide +kernel
theorem dX12_isStep_0 : decode cX12_isStep 0 = .ok (.aload_n 0, 1) := by decide +kernel
theorem dX12_isStep_1 : decode cX12_isStep 1 = .ok (.getfield 10, 3) := by decide +kernel
theorem dX12_isStep_4 : decode cX12_isStep 4 = .ok (.iload_n 1, 1) := by decide +kernel
theorem dX12_isStep_5 : decode cX12_isStep 5 = .ok (.sipush 772, 3) := by decide +kernel
theorem dX12_isStep_8 : decode cX12_isStep 8 = .ok (.iadd, 1) := by decide +kernel
theorem dX12_isStep_9 : decode cX12_isStep 9 = .ok (.iaload, 1) := by decide +kernel
theorem dX12_isStep_10 : decode cX12_isStep 10 = .ok (.iconst 1, 1) := by decide +kernel
theorem dX12_isStep_11 : decode cX12_isStep 11 = .ok (.if_icmp .ne 5, 3) := by decide +kernel
theorem dX12_isStep_14 : decode cX12_isStep 14 = .ok (.iconst 0, 1) := by decide +kernel
theorem dX12_isStep_15 : decode cX12_isStep 15 = .ok (.ireturn, 1) := by decide +kernel
theorem dX12_isStep_16 : decode cX12_isStep 16 = .ok (.aload_n 0, 1) := by decide +kernel
theorem dX12_isStep_17 : decode cX12_isStep 17 = .ok (.getfield 10, 3) := by decide +kernel
theorem dX12_isStep_20 : decode cX12_isStep 20 = .ok (.iload_n 1, 1) := by decide +kernel
theorem dX12_isStep_21 : decode cX12_isStep 21 = .ok (.sipush 776, 3) := by decide +kernel
theorem dX12_isStep_24 : decode cX12_isStep 24 = .ok (.iadd, 1) := by decide +kernel
theorem dX12_isStep_25 : decode cX12_isStep 25 = .ok (.iaload, 1) := by decide +kernel
theorem dX12_isStep_26 : decode cX12_isStep 26 = .ok (.ifCond .ne 13, 3) := by decide +kernel
theorem dX12_isStep_29 : decode cX12_isStep 29 = .ok (.aload_n 0, 1) := by decide +kernel
theorem dX12_isStep_30 : decode cX12_isStep 30 = .ok (.iload_n 1, 1) := by decide +kernel
theorem dX12_isStep_31 : decode cX12_isStep 31 = .ok (.invokevirtual 160, 3) := by decide +kernel
theorem dX12_isStep_34 : decode cX12_isStep 34 = .ok (.ifCond .ne 5, 3) := by decide +kernel
theorem dX12_isStep_37 : decode cX12_isStep 37 = .ok (.iconst 0, 1) := by decide +kernel
theorem dX12_isStep_38 : decode cX12_isStep 38 = .ok (.ireturn, 1) := by decide +kernel
theorem dX12_isStep_39 : decode cX12_isStep 39 = .ok (.iload_n 1, 1) := by decide +kernel
theorem dX12_isStep_40 : decode cX12_isStep 40 = .ok (.sipush 288, 3) := by decide +kernel
theorem dX12_isStep_43 : decode cX12_isStep 43 = .ok (.iadd, 1) := by decide +kernel
theorem dX12_isStep_44 : decode cX12_isStep 44 = .ok (.iconst 3, 1) := by decide +kernel
theorem dX12_isStep_45 : decode cX12_isStep 45 = .ok (.aload_n 0, 1) := by decide +kernel
theorem dX12_isStep_46 : decode cX12_isStep 46 = .ok (.getfield 10, 3) := by decide +kernel
theorem dX12_isStep_49 : decode cX12_isStep 49 = .ok (.iload_n 1, 1) := by decide +kernel
theorem dX12_isStep_50 : decode cX12_isStep 50 = .ok (.sipush 775, 3) := by decide +kernel
theorem dX12_isStep_53 : decode cX12_isStep 53 = .ok (.iadd, 1) := by decide +kernel
theorem dX12_isStep_54 : decode cX12_isStep 54 = .ok (.iaload, 1) := by decide +kernel
theorem dX12_isStep_55 : decode cX12_isStep 55 = .ok (.imul, 1) := by decide +kernel
theorem dX12_isStep_56 : decode cX12_isStep 56 = .ok (.iadd, 1) := by decide +kernel
theorem dX12_isStep_57 : decode cX12_isStep 57 = .ok (.istore_n 2, 1) := by decide +kernel
theorem dX12_isStep_58 : decode cX12_isStep 58 = .ok (.aload_n 0, 1) := by decide +kernel
theorem dX12_isStep_59 : decode cX12_isStep 59 = .ok (.iload_n 1, 1) := by decide +kernel
theorem dX12_isStep_60 : decode cX12_isStep 60 = .ok (.aload_n 0, 1) := by decide +kernel
theorem dX12_isStep_61 : decode cX12_isStep 61 = .ok (.getfield 10, 3) := by decide +kernel
theorem dX12_isStep_64 : decode cX12_isStep 64 = .ok (.iload_n 2, 1) := by decide +kernel
theorem dX12_isStep_65 : decode cX12_isStep 65 = .ok (.iaload, 1) := by decide +kernel
theorem dX12_isStep_66 : decode cX12_isStep 66 = .ok (.aload_n 0, 1) := by decide +kernel
theorem dX12_isStep_67 : decode cX12_isStep 67 = .ok (.getfield 10, 3) := by decide +kernel
theorem dX12_isStep_70 : decode cX12_isStep 70 = .ok (.iload_n 2, 1) := by decide +kernel
theorem dX12_isStep_71 : decode cX12_isStep 71 = .ok (.iconst 1, 1) := by decide +kernel
theorem dX12_isStep_72 : decode cX12_isStep 72 = .ok (.iadd, 1) := by decide +kernel
theorem dX12_isStep_73 : decode cX12_isStep 73 = .ok (.iaload, 1) := by decide +kernel
theorem dX12_isStep_74 : decode cX12_isStep 74 = .ok (.aload_n 0, 1) := by decide +kernel
theorem dX12_isStep_75 : decode cX12_isStep 75 = .ok (.getfield 10, 3) := by decide +kernel
theorem dX12_isStep_78 : decode cX12_isStep 78 = .ok (.iload_n 2, 1) := by decide +kernel
theorem dX12_isStep_79 : decode cX12_isStep 79 = .ok (.iconst 2, 1) := by decide +kernel
theorem dX12_isStep_80 : decode cX12_isStep 80 = .ok (.iadd, 1) := by decide +kernel
theorem dX12_isStep_81 : decode cX12_isStep 81 = .ok (.iaload, 1) := by decide +kernel
theorem dX12_isStep_82 : decode cX12_isStep 82 = .ok (.invokevirtual 163, 3) := by decide +kernel
theorem dX12_isStep_85 : decode cX12_isStep 85 = .ok (.aload_n 0, 1) := by decide +kernel
theorem dX12_isStep_86 : decode cX12_isStep 86 = .ok (.getfield 10, 3) := by decide +kernel
theorem dX12_isStep_89 : decode cX12_isStep 89 = .ok (.iload_n 1, 1) := by decide +kernel
theorem dX12_isStep_90 : decode cX12_isStep 90 = .ok (.sipush 775, 3) := by decide +kernel
theorem dX12_isStep_93 : decode cX12_isStep 93 = .ok (.iadd, 1) := by decide +kernel
theorem dX12_isStep_94 : decode cX12_isStep 94 = .ok (.dup2, 1) := by decide +kernel
theorem dX12_isStep_95 : decode cX12_isStep 95 = .ok (.iaload, 1) := by decide +kernel
theorem dX12_isStep_96 : decode cX12_isStep 96 = .ok (.iconst 1, 1) := by decide +kernel
theorem dX12_isStep_97 : decode cX12_isStep 97 = .ok (.iadd, 1) := by decide +kernel
theorem dX12_isStep_98 : decode cX12_isStep 98 = .ok (.iastore, 1) := by decide +kernel
theorem dX12_isStep_99 : decode cX12_isStep 99 = .ok (.aload_n 0, 1) := by decide +kernel
theorem dX12_isStep_100 : decode cX12_isStep 100 = .ok (.getfield 10, 3) := by decide +kernel
theorem dX12_isStep_103 : decode cX12_isStep 103 = .ok (.iload_n 1, 1) := by decide +kernel
theorem dX12_isStep_104 : decode cX12_isStep 104 = .ok (.sipush 782, 3) := by decide +kernel
theorem dX12_isStep_107 : decode cX12_isStep 107 = .ok (.iadd, 1) := by decide +kernel
theorem dX12_isStep_108 : decode cX12_isStep 108 = .ok (.dup2, 1) := by decide +kernel
theorem dX12_isStep_109 : decode cX12_isStep 109 = .ok (.iaload, 1) := by decide +kernel
theorem dX12_isStep_110 : decode cX12_isStep 110 = .ok (.iconst 1, 1) := by decide +kernel
theorem dX12_isStep_111 : decode cX12_isStep 111 = .ok (.iadd, 1) := by decide +kernel
theorem dX12_isStep_112 : decode cX12_isStep 112 = .ok (.iastore, 1) := by decide +kernel
theorem dX12_isStep_113 : decode cX12_isStep 113 = .ok (.aload_n 0, 1) := by decide +kernel
theorem dX12_isStep_114 : decode cX12_isStep 114 = .ok (.getfield 10, 3) := by decide +kernel
theorem dX12_isStep_117 : decode cX12_isStep 117 = .ok (.iload_n 1, 1) := by decide +kernel
theorem dX12_isStep_118 : decode cX12_isStep 118 = .ok (.sipush 775, 3) := by decide +kernel
theorem dX12_isStep_121 : decode cX12_isStep 121 = .ok (.iadd, 1) := by decide +kernel
theorem dX12_isStep_122 : decode cX12_isStep 122 = .ok (.iaload, 1) := by decide +kernel
theorem dX12_isStep_123 : decode cX12_isStep 123 = .ok (.aload_n 0, 1) := by decide +kernel
theorem dX12_isStep_124 : decode cX12_isStep 124 = .ok (.getfield 10, 3) := by decide +kernel
theorem dX12_isStep_127 : decode cX12_isStep 127 = .ok (.iload_n 1, 1) := by decide +kernel
theorem dX12_isStep_128 : decode cX12_isStep 128 = .ok (.sipush 774, 3) := by decide +kernel
theorem dX12_isStep_131 : decode cX12_isStep 131 = .ok (.iadd, 1) := by decide +kernel
theorem dX12_isStep_132 : decode cX12_isStep 132 = .ok (.iaload, 1) := by decide +kernel
theorem dX12_isStep_133 : decode cX12_isStep 133 = .ok (.if_icmp .ge 5, 3) := by decide +kernel
theorem dX12_isStep_136 : decode cX12_isStep 136 = .ok (.iconst 1, 1) := by decide +kernel
theorem dX12_isStep_137 : decode cX12_isStep 137 = .ok (.ireturn, 1) := by decide +kernel
theorem dX12_isStep_138 : decode cX12_isStep 138 = .ok (.aload_n 0, 1) := by decide +kernel
theorem dX12_isStep_139 : decode cX12_isStep 139 = .ok (.getfield 10, 3) := by decide +kernel
theorem dX12_isStep_142 : decode cX12_isStep 142 = .ok (.iload_n 1, 1) := by decide +kernel
theorem dX12_isStep_143 : decode cX12_isStep 143 = .ok (.sipush 776, 3) := by decide +kernel
theorem dX12_isStep_146 : decode cX12_isStep 146 = .ok (.iadd, 1) := by decide +kernel
theorem dX12_isStep_147 : decode cX12_isStep 147 = .ok (.iaload, 1) := by decide +kernel
theorem dX12_isStep_148 : decode cX12_isStep 148 = .ok (.iconst 1, 1) := by decide +kernel
theorem dX12_isStep_149 : decode cX12_isStep 149 = .ok (.if_icmp .ne 17, 3) := by decide +kernel
theorem dX12_isStep_152 : decode cX12_isStep 152 = .ok (.aload_n 0, 1) := by decide +kernel
theorem dX12_isStep_153 : decode cX12_isStep 153 = .ok (.getfield 10, 3) := by decide +kernel
theorem dX12_isStep_156 : decode cX12_isStep 156 = .ok (.iload_n 1, 1) := by decide +kernel
theorem dX12_isStep_157 : decode cX12_isStep 157 = .ok (.sipush 778, 3) := by decide +kernel
theorem dX12_isStep_160 : decode cX12_isStep 160 = .ok (.iadd, 1) := by decide +kernel
theorem dX12_isStep_161 : decode cX12_isStep 161 = .ok (.dup2, 1) := by decide +kernel
theorem dX12_isStep_162 : decode cX12_isStep 162 = .ok (.iaload, 1) := by decide +kernel
theorem dX12_isStep_163 : decode cX12_isStep 163 = .ok (.iconst 1, 1) := by decide +kernel
theorem dX12_isStep_164 : decode cX12_isStep 164 = .ok (.iadd, 1) := by decide +kernel
theorem dX12_isStep_165 : decode cX12_isStep 165 = .ok (.iastore, 1) := by decide +kernel
theorem dX12_isStep_166 : decode cX12_isStep 166 = .ok (.aload_n 0, 1) := by decide +kernel
theorem dX12_isStep_167 : decode cX12_isStep 167 = .ok (.getfield 10, 3) := by decide +kernel
theorem dX12_isStep_170 : decode cX12_isStep 170 = .ok (.iload_n 1, 1) := by decide +kernel
theorem dX12_isStep_171 : decode cX12_isStep 171 = .ok (.sipush 772, 3) := by decide +kernel
theorem dX12_isStep_174 : decode cX12_isStep 174 = .ok (.iadd, 1) := by decide +kernel
theorem dX12_isStep_175 : decode cX12_isStep 175 = .ok (.iconst 0, 1) := by decide +kernel
theorem dX12_isStep_176 : decode cX12_isStep 176 = .ok (.iastore, 1) := by decide +kernel
theorem dX12_isStep_177 : decode cX12_isStep 177 = .ok (.aload_n 0, 1) := by decide +kernel
theorem dX12_isStep_178 : decode cX12_isStep 178 = .ok (.getfield 10, 3) := by decide +kernel
theorem dX12_isStep_181 : decode cX12_isStep 181 = .ok (.iload_n 1, 1) := by decide +kernel
theorem dX12_isStep_182 : decode cX12_isStep 182 = .ok (.sipush 776, 3) := by decide +kernel
theorem dX12_isStep_185 : decode cX12_isStep 185 = .ok (.iadd, 1) := by decide +kernel
theorem dX12_isStep_186 : decode cX12_isStep 186 = .ok (.iconst 0, 1) := by decide +kernel
theorem dX12_isStep_187 : decode cX12_isStep 187 = .ok (.iastore, 1) := by decide +kernel
theorem dX12_isStep_188 : decode cX12_isStep 188 = .ok (.aload_n 0, 1) := by decide +kernel
theorem dX12_isStep_189 : decode cX12_isStep 189 = .ok (.getfield 10, 3) := by decide +kernel
theorem dX12_isStep_192 : decode cX12_isStep 192 = .ok (.iload_n 1, 1) := by decide +kernel
theorem dX12_isStep_193 : decode cX12_isStep 193 = .ok (.sipush 774, 3) := by decide +kernel
theorem dX12_isStep_196 : decode cX12_isStep 196 = .ok (.iadd, 1) := by decide +kernel
theorem dX12_isStep_197 : decode cX12_isStep 197 = .ok (.iconst 0, 1) := by decide +kernel
theorem dX12_isStep_198 : decode cX12_isStep 198 = .ok (.iastore, 1) := by decide +kernel
theorem dX12_isStep_199 : decode cX12_isStep 199 = .ok (.aload_n 0, 1) := by decide +kernel
theorem dX12_isStep_200 : decode cX12_isStep 200 = .ok (.getfield 10, 3) := by decide +kernel
theorem dX12_isStep_203 : decode cX12_isStep 203 = .ok (.iload_n 1, 1) := by decide +kernel
theorem dX12_isStep_204 : decode cX12_isStep 204 = .ok (.sipush 775, 3) := by decide +kernel
theorem dX12_isStep_207 : decode cX12_isStep 207 = .ok (.iadd, 1) := by decide +kernel
theorem dX12_isStep_208 : decode cX12_isStep 208 = .ok (.iconst 0, 1) := by decide +kernel
theorem dX12_isStep_209 : decode cX12_isStep 209 = .ok (.iastore, 1) := by decide +kernel
theorem dX12_isStep_210 : decode cX12_isStep 210 = .ok (.iconst 1, 1) := by decide +kernel
theorem dX12_isStep_211 : decode cX12_isStep 211 = .ok (.ireturn, 1) := by decide +kernel
theorem dX12_entryAt_0 : decode cX12_entryAt 0 = .ok (.iconst 4, 1) := by decide +kernel
theorem dX12_entryAt_1 : decode cX12_entryAt 1 = .ok (.iconst 2, 1) := by decide +kernel
theorem dX12_entryAt_2 : decode cX12_entryAt 2 = .ok (.aload_n 0, 1) := by decide +kernel
theorem dX12_entryAt_3 : decode cX12_entryAt 3 = .ok (.getfield 147, 3) := by decide +kernel
theorem dX12_entryAt_6 : decode cX12_entryAt 6 = .ok (.iconst 1, 1) := by decide +kernel
theorem dX12_entryAt_7 : decode cX12_entryAt 7 = .ok (.if_icmp .ne 7, 3) := by decide +kernel
theorem dX12_entryAt_10 : decode cX12_entryAt 10 = .ok (.iload_n 2, 1) := by decide +kernel
theorem dX12_entryAt_11 : decode cX12_entryAt 11 = .ok (.goto 8, 3) := by decide +kernel
theorem dX12_entryAt_14 : decode cX12_entryAt 14 = .ok (.iload_n 1, 1) := by decide +kernel
theorem dX12_entryAt_15 : decode cX12_entryAt 15 = .ok (.iconst 1, 1) := by decide +kernel
theorem dX12_entryAt_16 : decode cX12_entryAt 16 = .ok (.isub, 1) := by decide +kernel
theorem dX12_entryAt_17 : decode cX12_entryAt 17 = .ok (.iload_n 2, 1) := by decide +kernel
theorem dX12_entryAt_18 : decode cX12_entryAt 18 = .ok (.isub, 1) := by decide +kernel
theorem dX12_entryAt_19 : decode cX12_entryAt 19 = .ok (.imul, 1) := by decide +kernel
theorem dX12_entryAt_20 : decode cX12_entryAt 20 = .ok (.iadd, 1) := by decide +kernel
theorem dX12_entryAt_21 : decode cX12_entryAt 21 = .ok (.ireturn, 1) := by decide +kernel
theorem dX12_counted_0 : decode cX12_counted 0 = .ok (.aload_n 0, 1) := by decide +kernel
theorem dX12_counted_1 : decode cX12_counted 1 = .ok (.iconst 0, 1) := by decide +kernel
theorem dX12_counted_2 : decode cX12_counted 2 = .ok (.iaload, 1) := by decide +kernel
theorem dX12_counted_3 : decode cX12_counted 3 = .ok (.bipush 8, 2) := by decide +kernel
theorem dX12_counted_5 : decode cX12_counted 5 = .ok (.if_icmp .le 8, 3) := by decide +kernel
theorem dX12_counted_8 : decode cX12_counted 8 = .ok (.bipush 8, 2) := by decide +kernel
theorem dX12_counted_10 : decode cX12_counted 10 = .ok (.goto 6, 3) := by decide +kernel
theorem dX12_counted_13 : decode cX12_counted 13 = .ok (.aload_n 0, 1) := by decide +kernel
theorem dX12_counted_14 : decode cX12_counted 14 = .ok (.iconst 0, 1) := by decide +kernel
theorem dX12_counted_15 : decode cX12_counted 15 = .ok (.iaload, 1) := by decide +kernel
theorem dX12_counted_16 : decode cX12_counted 16 = .ok (.ireturn, 1) := by decide +kernel
theorem dX12_recovers_0 : decode cX12_recovers 0 = .ok (.aload_n 1, 1) := by decide +kernel
theorem dX12_recovers_1 : decode cX12_recovers 1 = .ok (.invokestatic 166, 3) := by decide +kernel
theorem dX12_recovers_4 : decode cX12_recovers 4 = .ok (.istore_n 2, 1) := by decide +kernel
theorem dX12_recovers_5 : decode cX12_recovers 5 = .ok (.iconst 0, 1) := by decide +kernel
theorem dX12_recovers_6 : decode cX12_recovers 6 = .ok (.istore_n 3, 1) := by decide +kernel
theorem dX12_recovers_7 : decode cX12_recovers 7 = .ok (.iload_n 3, 1) := by decide +kernel
theorem dX12_recovers_8 : decode cX12_recovers 8 = .ok (.iload_n 2, 1) := by decide +kernel
theorem dX12_recovers_9 : decode cX12_recovers 9 = .ok (.if_icmp .ge 43, 3) := by decide +kernel
theorem dX12_recovers_12 : decode cX12_recovers 12 = .ok (.aload_n 0, 1) := by decide +kernel
theorem dX12_recovers_13 : decode cX12_recovers 13 = .ok (.iload_n 2, 1) := by decide +kernel
theorem dX12_recovers_14 : decode cX12_recovers 14 = .ok (.iload_n 3, 1) := by decide +kernel
theorem dX12_recovers_15 : decode cX12_recovers 15 = .ok (.invokevirtual 169, 3) := by decide +kernel
theorem dX12_recovers_18 : decode cX12_recovers 18 = .ok (.istore 4, 2) := by decide +kernel
theorem dX12_recovers_20 : decode cX12_recovers 20 = .ok (.aload_n 1, 1) := by decide +kernel
theorem dX12_recovers_21 : decode cX12_recovers 21 = .ok (.iload 4, 2) := by decide +kernel
theorem dX12_recovers_23 : decode cX12_recovers 23 = .ok (.iaload, 1) := by decide +kernel
theorem dX12_recovers_24 : decode cX12_recovers 24 = .ok (.bipush 20, 2) := by decide +kernel
theorem dX12_recovers_26 : decode cX12_recovers 26 = .ok (.bipush 63, 2) := by decide +kernel
theorem dX12_recovers_28 : decode cX12_recovers 28 = .ok (.invokestatic 172, 3) := by decide +kernel
theorem dX12_recovers_31 : decode cX12_recovers 31 = .ok (.ifCond .eq 15, 3) := by decide +kernel
theorem dX12_recovers_34 : decode cX12_recovers 34 = .ok (.aload_n 1, 1) := by decide +kernel
theorem dX12_recovers_35 : decode cX12_recovers 35 = .ok (.aload_n 1, 1) := by decide +kernel
theorem dX12_recovers_36 : decode cX12_recovers 36 = .ok (.iload 4, 2) := by decide +kernel
theorem dX12_recovers_38 : decode cX12_recovers 38 = .ok (.iaload, 1) := by decide +kernel
theorem dX12_recovers_39 : decode cX12_recovers 39 = .ok (.aload_n 1, 1) := by decide +kernel
theorem dX12_recovers_40 : decode cX12_recovers 40 = .ok (.iload 4, 2) := by decide +kernel
theorem dX12_recovers_42 : decode cX12_recovers 42 = .ok (.iconst 1, 1) := by decide +kernel
theorem dX12_recovers_43 : decode cX12_recovers 43 = .ok (.iadd, 1) := by decide +kernel
theorem dX12_recovers_44 : decode cX12_recovers 44 = .ok (.iaload, 1) := by decide +kernel
theorem dX12_recovers_45 : decode cX12_recovers 45 = .ok (.iastore, 1) := by decide +kernel
theorem dX12_recovers_46 : decode cX12_recovers 46 = .ok (.iinc 3 1, 3) := by decide +kernel
theorem dX12_recovers_49 : decode cX12_recovers 49 = .ok (.goto (-42), 3) := by decide +kernel
theorem dX12_recovers_52 : decode cX12_recovers 52 = .ok (.aload_n 1, 1) := by decide +kernel
theorem dX12_recovers_53 : decode cX12_recovers 53 = .ok (.iconst 0, 1) := by decide +kernel
theorem dX12_recovers_54 : decode cX12_recovers 54 = .ok (.iconst 0, 1) := by decide +kernel
theorem dX12_recovers_55 : decode cX12_recovers 55 = .ok (.iastore, 1) := by decide +kernel
theorem dX12_recovers_56 : decode cX12_recovers 56 = .ok (.return_, 1) := by decide +kernel
theorem dX12_laysMemory_0 : decode cX12_laysMemory 0 = .ok (.iconst 0, 1) := by decide +kernel
theorem dX12_laysMemory_1 : decode cX12_laysMemory 1 = .ok (.istore_n 2, 1) := by decide +kernel
theorem dX12_laysMemory_2 : decode cX12_laysMemory 2 = .ok (.iload_n 2, 1) := by decide +kernel
theorem dX12_laysMemory_3 : decode cX12_laysMemory 3 = .ok (.bipush 64, 2) := by decide +kernel
theorem dX12_laysMemory_5 : decode cX12_laysMemory 5 = .ok (.if_icmp .ge 23, 3) := by decide +kernel
theorem dX12_laysMemory_8 : decode cX12_laysMemory 8 = .ok (.aload_n 0, 1) := by decide +kernel
theorem dX12_laysMemory_9 : decode cX12_laysMemory 9 = .ok (.getfield 39, 3) := by decide +kernel
theorem dX12_laysMemory_12 : decode cX12_laysMemory 12 = .ok (.iload_n 2, 1) := by decide +kernel
theorem dX12_laysMemory_13 : decode cX12_laysMemory 13 = .ok (.aload_n 0, 1) := by decide +kernel
theorem dX12_laysMemory_14 : decode cX12_laysMemory 14 = .ok (.getfield 10, 3) := by decide +kernel
theorem dX12_laysMemory_17 : decode cX12_laysMemory 17 = .ok (.iload_n 1, 1) := by decide +kernel
theorem dX12_laysMemory_18 : decode cX12_laysMemory 18 = .ok (.iload_n 2, 1) := by decide +kernel
theorem dX12_laysMemory_19 : decode cX12_laysMemory 19 = .ok (.iadd, 1) := by decide +kernel
theorem dX12_laysMemory_20 : decode cX12_laysMemory 20 = .ok (.iaload, 1) := by decide +kernel
theorem dX12_laysMemory_21 : decode cX12_laysMemory 21 = .ok (.iastore, 1) := by decide +kernel
theorem dX12_laysMemory_22 : decode cX12_laysMemory 22 = .ok (.iinc 2 1, 3) := by decide +kernel
theorem dX12_laysMemory_25 : decode cX12_laysMemory 25 = .ok (.goto (-23), 3) := by decide +kernel
theorem dX12_laysMemory_28 : decode cX12_laysMemory 28 = .ok (.return_, 1) := by decide +kernel
theorem dX12_recovery_0 : decode cX12_recovery 0 = .ok (.aload_n 0, 1) := by decide +kernel
theorem dX12_recovery_1 : decode cX12_recovery 1 = .ok (.getfield 10, 3) := by decide +kernel
theorem dX12_recovery_4 : decode cX12_recovery 4 = .ok (.iload_n 1, 1) := by decide +kernel
theorem dX12_recovery_5 : decode cX12_recovery 5 = .ok (.sipush 781, 3) := by decide +kernel
theorem dX12_recovery_8 : decode cX12_recovery 8 = .ok (.iadd, 1) := by decide +kernel
theorem dX12_recovery_9 : decode cX12_recovery 9 = .ok (.dup2, 1) := by decide +kernel
theorem dX12_recovery_10 : decode cX12_recovery 10 = .ok (.iaload, 1) := by decide +kernel
theorem dX12_recovery_11 : decode cX12_recovery 11 = .ok (.iconst 1, 1) := by decide +kernel
theorem dX12_recovery_12 : decode cX12_recovery 12 = .ok (.iadd, 1) := by decide +kernel
theorem dX12_recovery_13 : decode cX12_recovery 13 = .ok (.iastore, 1) := by decide +kernel
theorem dX12_recovery_14 : decode cX12_recovery 14 = .ok (.aload_n 0, 1) := by decide +kernel
theorem dX12_recovery_15 : decode cX12_recovery 15 = .ok (.getfield 10, 3) := by decide +kernel
theorem dX12_recovery_18 : decode cX12_recovery 18 = .ok (.iload_n 1, 1) := by decide +kernel
theorem dX12_recovery_19 : decode cX12_recovery 19 = .ok (.sipush 772, 3) := by decide +kernel
theorem dX12_recovery_22 : decode cX12_recovery 22 = .ok (.iadd, 1) := by decide +kernel
theorem dX12_recovery_23 : decode cX12_recovery 23 = .ok (.iconst 0, 1) := by decide +kernel
theorem dX12_recovery_24 : decode cX12_recovery 24 = .ok (.iastore, 1) := by decide +kernel
theorem dX12_recovery_25 : decode cX12_recovery 25 = .ok (.aload_n 0, 1) := by decide +kernel
theorem dX12_recovery_26 : decode cX12_recovery 26 = .ok (.iload_n 1, 1) := by decide +kernel
theorem dX12_recovery_27 : decode cX12_recovery 27 = .ok (.invokevirtual 175, 3) := by decide +kernel
theorem dX12_recovery_30 : decode cX12_recovery 30 = .ok (.aload_n 0, 1) := by decide +kernel
theorem dX12_recovery_31 : decode cX12_recovery 31 = .ok (.getfield 39, 3) := by decide +kernel
theorem dX12_recovery_34 : decode cX12_recovery 34 = .ok (.invokestatic 166, 3) := by decide +kernel
theorem dX12_recovery_37 : decode cX12_recovery 37 = .ok (.istore_n 2, 1) := by decide +kernel
theorem dX12_recovery_38 : decode cX12_recovery 38 = .ok (.iload_n 2, 1) := by decide +kernel
theorem dX12_recovery_39 : decode cX12_recovery 39 = .ok (.ifCond .ne 4, 3) := by decide +kernel
theorem dX12_recovery_42 : decode cX12_recovery 42 = .ok (.return_, 1) := by decide +kernel
theorem dX12_recovery_43 : decode cX12_recovery 43 = .ok (.aload_n 0, 1) := by decide +kernel
theorem dX12_recovery_44 : decode cX12_recovery 44 = .ok (.iconst 0, 1) := by decide +kernel
theorem dX12_recovery_45 : decode cX12_recovery 45 = .ok (.putfield 73, 3) := by decide +kernel
theorem dX12_recovery_48 : decode cX12_recovery 48 = .ok (.iconst 0, 1) := by decide +kernel
theorem dX12_recovery_49 : decode cX12_recovery 49 = .ok (.istore_n 3, 1) := by decide +kernel
theorem dX12_recovery_50 : decode cX12_recovery 50 = .ok (.iload_n 3, 1) := by decide +kernel
theorem dX12_recovery_51 : decode cX12_recovery 51 = .ok (.iload_n 2, 1) := by decide +kernel
theorem dX12_recovery_52 : decode cX12_recovery 52 = .ok (.if_icmp .ge 81, 3) := by decide +kernel
theorem dX12_recovery_55 : decode cX12_recovery 55 = .ok (.aload_n 0, 1) := by decide +kernel
theorem dX12_recovery_56 : decode cX12_recovery 56 = .ok (.iload_n 2, 1) := by decide +kernel
theorem dX12_recovery_57 : decode cX12_recovery 57 = .ok (.iload_n 3, 1) := by decide +kernel
theorem dX12_recovery_58 : decode cX12_recovery 58 = .ok (.invokevirtual 169, 3) := by decide +kernel
theorem dX12_recovery_61 : decode cX12_recovery 61 = .ok (.istore 4, 2) := by decide +kernel
theorem dX12_recovery_63 : decode cX12_recovery 63 = .ok (.aload_n 0, 1) := by decide +kernel
theorem dX12_recovery_64 : decode cX12_recovery 64 = .ok (.getfield 39, 3) := by decide +kernel
theorem dX12_recovery_67 : decode cX12_recovery 67 = .ok (.iload 4, 2) := by decide +kernel
theorem dX12_recovery_69 : decode cX12_recovery 69 = .ok (.iaload, 1) := by decide +kernel
theorem dX12_recovery_70 : decode cX12_recovery 70 = .ok (.bipush 20, 2) := by decide +kernel
theorem dX12_recovery_72 : decode cX12_recovery 72 = .ok (.bipush 63, 2) := by decide +kernel
theorem dX12_recovery_74 : decode cX12_recovery 74 = .ok (.invokestatic 172, 3) := by decide +kernel
theorem dX12_recovery_77 : decode cX12_recovery 77 = .ok (.ifCond .ne 6, 3) := by decide +kernel
theorem dX12_recovery_80 : decode cX12_recovery 80 = .ok (.goto 47, 3) := by decide +kernel
theorem dX12_recovery_83 : decode cX12_recovery 83 = .ok (.aload_n 0, 1) := by decide +kernel
theorem dX12_recovery_84 : decode cX12_recovery 84 = .ok (.getfield 33, 3) := by decide +kernel
theorem dX12_recovery_87 : decode cX12_recovery 87 = .ok (.aload_n 0, 1) := by decide +kernel
theorem dX12_recovery_88 : decode cX12_recovery 88 = .ok (.getfield 73, 3) := by decide +kernel
theorem dX12_recovery_91 : decode cX12_recovery 91 = .ok (.aload_n 0, 1) := by decide +kernel
theorem dX12_recovery_92 : decode cX12_recovery 92 = .ok (.getfield 39, 3) := by decide +kernel
theorem dX12_recovery_95 : decode cX12_recovery 95 = .ok (.iload 4, 2) := by decide +kernel
theorem dX12_recovery_97 : decode cX12_recovery 97 = .ok (.iaload, 1) := by decide +kernel
theorem dX12_recovery_98 : decode cX12_recovery 98 = .ok (.iastore, 1) := by decide +kernel
theorem dX12_recovery_99 : decode cX12_recovery 99 = .ok (.aload_n 0, 1) := by decide +kernel
theorem dX12_recovery_100 : decode cX12_recovery 100 = .ok (.getfield 36, 3) := by decide +kernel
theorem dX12_recovery_103 : decode cX12_recovery 103 = .ok (.aload_n 0, 1) := by decide +kernel
theorem dX12_recovery_104 : decode cX12_recovery 104 = .ok (.getfield 73, 3) := by decide +kernel
theorem dX12_recovery_107 : decode cX12_recovery 107 = .ok (.aload_n 0, 1) := by decide +kernel
theorem dX12_recovery_108 : decode cX12_recovery 108 = .ok (.getfield 39, 3) := by decide +kernel
theorem dX12_recovery_111 : decode cX12_recovery 111 = .ok (.iload 4, 2) := by decide +kernel
theorem dX12_recovery_113 : decode cX12_recovery 113 = .ok (.iconst 1, 1) := by decide +kernel
theorem dX12_recovery_114 : decode cX12_recovery 114 = .ok (.iadd, 1) := by decide +kernel
theorem dX12_recovery_115 : decode cX12_recovery 115 = .ok (.iaload, 1) := by decide +kernel
theorem dX12_recovery_116 : decode cX12_recovery 116 = .ok (.iastore, 1) := by decide +kernel
theorem dX12_recovery_117 : decode cX12_recovery 117 = .ok (.aload_n 0, 1) := by decide +kernel
theorem dX12_recovery_118 : decode cX12_recovery 118 = .ok (.dup, 1) := by decide +kernel
theorem dX12_recovery_119 : decode cX12_recovery 119 = .ok (.getfield 73, 3) := by decide +kernel
theorem dX12_recovery_122 : decode cX12_recovery 122 = .ok (.iconst 1, 1) := by decide +kernel
theorem dX12_recovery_123 : decode cX12_recovery 123 = .ok (.iadd, 1) := by decide +kernel
theorem dX12_recovery_124 : decode cX12_recovery 124 = .ok (.putfield 73, 3) := by decide +kernel
theorem dX12_recovery_127 : decode cX12_recovery 127 = .ok (.iinc 3 1, 3) := by decide +kernel
theorem dX12_recovery_130 : decode cX12_recovery 130 = .ok (.goto (-80), 3) := by decide +kernel
theorem dX12_recovery_133 : decode cX12_recovery 133 = .ok (.aload_n 0, 1) := by decide +kernel
theorem dX12_recovery_134 : decode cX12_recovery 134 = .ok (.getfield 10, 3) := by decide +kernel
theorem dX12_recovery_137 : decode cX12_recovery 137 = .ok (.iload_n 1, 1) := by decide +kernel
theorem dX12_recovery_138 : decode cX12_recovery 138 = .ok (.sipush 774, 3) := by decide +kernel
theorem dX12_recovery_141 : decode cX12_recovery 141 = .ok (.iadd, 1) := by decide +kernel
theorem dX12_recovery_142 : decode cX12_recovery 142 = .ok (.iconst 0, 1) := by decide +kernel
theorem dX12_recovery_143 : decode cX12_recovery 143 = .ok (.iastore, 1) := by decide +kernel
theorem dX12_recovery_144 : decode cX12_recovery 144 = .ok (.aload_n 0, 1) := by decide +kernel
theorem dX12_recovery_145 : decode cX12_recovery 145 = .ok (.getfield 10, 3) := by decide +kernel
theorem dX12_recovery_148 : decode cX12_recovery 148 = .ok (.iload_n 1, 1) := by decide +kernel
theorem dX12_recovery_149 : decode cX12_recovery 149 = .ok (.sipush 775, 3) := by decide +kernel
theorem dX12_recovery_152 : decode cX12_recovery 152 = .ok (.iadd, 1) := by decide +kernel
theorem dX12_recovery_153 : decode cX12_recovery 153 = .ok (.iconst 0, 1) := by decide +kernel
theorem dX12_recovery_154 : decode cX12_recovery 154 = .ok (.iastore, 1) := by decide +kernel
theorem dX12_recovery_155 : decode cX12_recovery 155 = .ok (.iconst 0, 1) := by decide +kernel
theorem dX12_recovery_156 : decode cX12_recovery 156 = .ok (.istore_n 3, 1) := by decide +kernel
theorem dX12_recovery_157 : decode cX12_recovery 157 = .ok (.iload_n 3, 1) := by decide +kernel
theorem dX12_recovery_158 : decode cX12_recovery 158 = .ok (.aload_n 0, 1) := by decide +kernel
theorem dX12_recovery_159 : decode cX12_recovery 159 = .ok (.getfield 73, 3) := by decide +kernel
theorem dX12_recovery_162 : decode cX12_recovery 162 = .ok (.if_icmp .ge 27, 3) := by decide +kernel
theorem dX12_recovery_165 : decode cX12_recovery 165 = .ok (.aload_n 0, 1) := by decide +kernel
theorem dX12_recovery_166 : decode cX12_recovery 166 = .ok (.iload_n 1, 1) := by decide +kernel
theorem dX12_recovery_167 : decode cX12_recovery 167 = .ok (.iconst 0, 1) := by decide +kernel
theorem dX12_recovery_168 : decode cX12_recovery 168 = .ok (.aload_n 0, 1) := by decide +kernel
theorem dX12_recovery_169 : decode cX12_recovery 169 = .ok (.getfield 33, 3) := by decide +kernel
theorem dX12_recovery_172 : decode cX12_recovery 172 = .ok (.iload_n 3, 1) := by decide +kernel
theorem dX12_recovery_173 : decode cX12_recovery 173 = .ok (.iaload, 1) := by decide +kernel
theorem dX12_recovery_174 : decode cX12_recovery 174 = .ok (.aload_n 0, 1) := by decide +kernel
theorem dX12_recovery_175 : decode cX12_recovery 175 = .ok (.getfield 36, 3) := by decide +kernel
theorem dX12_recovery_178 : decode cX12_recovery 178 = .ok (.iload_n 3, 1) := by decide +kernel
theorem dX12_recovery_179 : decode cX12_recovery 179 = .ok (.iaload, 1) := by decide +kernel
theorem dX12_recovery_180 : decode cX12_recovery 180 = .ok (.invokevirtual 134, 3) := by decide +kernel
theorem dX12_recovery_183 : decode cX12_recovery 183 = .ok (.iinc 3 1, 3) := by decide +kernel
theorem dX12_recovery_186 : decode cX12_recovery 186 = .ok (.goto (-29), 3) := by decide +kernel
theorem dX12_recovery_189 : decode cX12_recovery 189 = .ok (.aload_n 0, 1) := by decide +kernel
theorem dX12_recovery_190 : decode cX12_recovery 190 = .ok (.iload_n 1, 1) := by decide +kernel
theorem dX12_recovery_191 : decode cX12_recovery 191 = .ok (.invokevirtual 150, 3) := by decide +kernel
theorem dX12_recovery_194 : decode cX12_recovery 194 = .ok (.aload_n 0, 1) := by decide +kernel
theorem dX12_recovery_195 : decode cX12_recovery 195 = .ok (.aload_n 0, 1) := by decide +kernel
theorem dX12_recovery_196 : decode cX12_recovery 196 = .ok (.getfield 39, 3) := by decide +kernel
theorem dX12_recovery_199 : decode cX12_recovery 199 = .ok (.invokevirtual 178, 3) := by decide +kernel
theorem dX12_recovery_202 : decode cX12_recovery 202 = .ok (.iconst 0, 1) := by decide +kernel
theorem dX12_recovery_203 : decode cX12_recovery 203 = .ok (.istore_n 3, 1) := by decide +kernel
theorem dX12_recovery_204 : decode cX12_recovery 204 = .ok (.iload_n 3, 1) := by decide +kernel
theorem dX12_recovery_205 : decode cX12_recovery 205 = .ok (.bipush 44, 2) := by decide +kernel
theorem dX12_recovery_207 : decode cX12_recovery 207 = .ok (.if_icmp .ge 30, 3) := by decide +kernel
theorem dX12_recovery_210 : decode cX12_recovery 210 = .ok (.aload_n 0, 1) := by decide +kernel
theorem dX12_recovery_211 : decode cX12_recovery 211 = .ok (.getfield 10, 3) := by decide +kernel
theorem dX12_recovery_214 : decode cX12_recovery 214 = .ok (.iload_n 1, 1) := by decide +kernel
theorem dX12_recovery_215 : decode cX12_recovery 215 = .ok (.sipush 528, 3) := by decide +kernel
theorem dX12_recovery_218 : decode cX12_recovery 218 = .ok (.iadd, 1) := by decide +kernel
theorem dX12_recovery_219 : decode cX12_recovery 219 = .ok (.iload_n 3, 1) := by decide +kernel
theorem dX12_recovery_220 : decode cX12_recovery 220 = .ok (.iadd, 1) := by decide +kernel
theorem dX12_recovery_221 : decode cX12_recovery 221 = .ok (.aload_n 0, 1) := by decide +kernel
theorem dX12_recovery_222 : decode cX12_recovery 222 = .ok (.getfield 39, 3) := by decide +kernel
theorem dX12_recovery_225 : decode cX12_recovery 225 = .ok (.bipush 20, 2) := by decide +kernel
theorem dX12_recovery_227 : decode cX12_recovery 227 = .ok (.iload_n 3, 1) := by decide +kernel
theorem dX12_recovery_228 : decode cX12_recovery 228 = .ok (.iadd, 1) := by decide +kernel
theorem dX12_recovery_229 : decode cX12_recovery 229 = .ok (.iaload, 1) := by decide +kernel
theorem dX12_recovery_230 : decode cX12_recovery 230 = .ok (.iastore, 1) := by decide +kernel
theorem dX12_recovery_231 : decode cX12_recovery 231 = .ok (.iinc 3 1, 3) := by decide +kernel
theorem dX12_recovery_234 : decode cX12_recovery 234 = .ok (.goto (-30), 3) := by decide +kernel
theorem dX12_recovery_237 : decode cX12_recovery 237 = .ok (.aload_n 0, 1) := by decide +kernel
theorem dX12_recovery_238 : decode cX12_recovery 238 = .ok (.getfield 10, 3) := by decide +kernel
theorem dX12_recovery_241 : decode cX12_recovery 241 = .ok (.iload_n 1, 1) := by decide +kernel
theorem dX12_recovery_242 : decode cX12_recovery 242 = .ok (.sipush 776, 3) := by decide +kernel
theorem dX12_recovery_245 : decode cX12_recovery 245 = .ok (.iadd, 1) := by decide +kernel
theorem dX12_recovery_246 : decode cX12_recovery 246 = .ok (.iconst 2, 1) := by decide +kernel
theorem dX12_recovery_247 : decode cX12_recovery 247 = .ok (.iastore, 1) := by decide +kernel
theorem dX12_recovery_248 : decode cX12_recovery 248 = .ok (.aload_n 0, 1) := by decide +kernel
theorem dX12_recovery_249 : decode cX12_recovery 249 = .ok (.getfield 10, 3) := by decide +kernel
theorem dX12_recovery_252 : decode cX12_recovery 252 = .ok (.iload_n 1, 1) := by decide +kernel
theorem dX12_recovery_253 : decode cX12_recovery 253 = .ok (.sipush 772, 3) := by decide +kernel
theorem dX12_recovery_256 : decode cX12_recovery 256 = .ok (.iadd, 1) := by decide +kernel
theorem dX12_recovery_257 : decode cX12_recovery 257 = .ok (.iconst 2, 1) := by decide +kernel
theorem dX12_recovery_258 : decode cX12_recovery 258 = .ok (.iastore, 1) := by decide +kernel
theorem dX12_recovery_259 : decode cX12_recovery 259 = .ok (.return_, 1) := by decide +kernel
theorem dX12_ordersOf_0 : decode cX12_ordersOf 0 = .ok (.lconst 1, 1) := by decide +kernel
theorem dX12_ordersOf_1 : decode cX12_ordersOf 1 = .ok (.lstore_n 2, 1) := by decide +kernel
theorem dX12_ordersOf_2 : decode cX12_ordersOf 2 = .ok (.iconst 0, 1) := by decide +kernel
theorem dX12_ordersOf_3 : decode cX12_ordersOf 3 = .ok (.istore 4, 2) := by decide +kernel
theorem dX12_ordersOf_5 : decode cX12_ordersOf 5 = .ok (.iload 4, 2) := by decide +kernel
theorem dX12_ordersOf_7 : decode cX12_ordersOf 7 = .ok (.bipush 16, 2) := by decide +kernel
theorem dX12_ordersOf_9 : decode cX12_ordersOf 9 = .ok (.if_icmp .ge 27, 3) := by decide +kernel
theorem dX12_ordersOf_12 : decode cX12_ordersOf 12 = .ok (.lload_n 2, 1) := by decide +kernel
theorem dX12_ordersOf_13 : decode cX12_ordersOf 13 = .ok (.aload_n 0, 1) := by decide +kernel
theorem dX12_ordersOf_14 : decode cX12_ordersOf 14 = .ok (.getfield 10, 3) := by decide +kernel
theorem dX12_ordersOf_17 : decode cX12_ordersOf 17 = .ok (.iload_n 1, 1) := by decide +kernel
theorem dX12_ordersOf_18 : decode cX12_ordersOf 18 = .ok (.bipush 64, 2) := by decide +kernel
theorem dX12_ordersOf_20 : decode cX12_ordersOf 20 = .ok (.iadd, 1) := by decide +kernel
theorem dX12_ordersOf_21 : decode cX12_ordersOf 21 = .ok (.iload 4, 2) := by decide +kernel
theorem dX12_ordersOf_23 : decode cX12_ordersOf 23 = .ok (.iadd, 1) := by decide +kernel
theorem dX12_ordersOf_24 : decode cX12_ordersOf 24 = .ok (.iaload, 1) := by decide +kernel
theorem dX12_ordersOf_25 : decode cX12_ordersOf 25 = .ok (.iconst 1, 1) := by decide +kernel
theorem dX12_ordersOf_26 : decode cX12_ordersOf 26 = .ok (.iadd, 1) := by decide +kernel
theorem dX12_ordersOf_27 : decode cX12_ordersOf 27 = .ok (.i2l, 1) := by decide +kernel
theorem dX12_ordersOf_28 : decode cX12_ordersOf 28 = .ok (.lmul, 1) := by decide +kernel
theorem dX12_ordersOf_29 : decode cX12_ordersOf 29 = .ok (.lstore_n 2, 1) := by decide +kernel
theorem dX12_ordersOf_30 : decode cX12_ordersOf 30 = .ok (.iinc 4 1, 3) := by decide +kernel
theorem dX12_ordersOf_33 : decode cX12_ordersOf 33 = .ok (.goto (-28), 3) := by decide +kernel
theorem dX12_ordersOf_36 : decode cX12_ordersOf 36 = .ok (.lload_n 2, 1) := by decide +kernel
theorem dX12_ordersOf_37 : decode cX12_ordersOf 37 = .ok (.lreturn, 1) := by decide +kernel
theorem dX12_firstOrder_0 : decode cX12_firstOrder 0 = .ok (.iconst 0, 1) := by decide +kernel
theorem dX12_firstOrder_1 : decode cX12_firstOrder 1 = .ok (.istore_n 1, 1) := by decide +kernel
theorem dX12_firstOrder_2 : decode cX12_firstOrder 2 = .ok (.iload_n 1, 1) := by decide +kernel
theorem dX12_firstOrder_3 : decode cX12_firstOrder 3 = .ok (.bipush 16, 2) := by decide +kernel
theorem dX12_firstOrder_5 : decode cX12_firstOrder 5 = .ok (.if_icmp .ge 16, 3) := by decide +kernel
theorem dX12_firstOrder_8 : decode cX12_firstOrder 8 = .ok (.aload_n 0, 1) := by decide +kernel
theorem dX12_firstOrder_9 : decode cX12_firstOrder 9 = .ok (.getfield 42, 3) := by decide +kernel
theorem dX12_firstOrder_12 : decode cX12_firstOrder 12 = .ok (.iload_n 1, 1) := by decide +kernel
theorem dX12_firstOrder_13 : decode cX12_firstOrder 13 = .ok (.iconst 0, 1) := by decide +kernel
theorem dX12_firstOrder_14 : decode cX12_firstOrder 14 = .ok (.iastore, 1) := by decide +kernel
theorem dX12_firstOrder_15 : decode cX12_firstOrder 15 = .ok (.iinc 1 1, 3) := by decide +kernel
theorem dX12_firstOrder_18 : decode cX12_firstOrder 18 = .ok (.goto (-16), 3) := by decide +kernel
theorem dX12_firstOrder_21 : decode cX12_firstOrder 21 = .ok (.return_, 1) := by decide +kernel
theorem dX12_nextOrder_0 : decode cX12_nextOrder 0 = .ok (.bipush 15, 2) := by decide +kernel
theorem dX12_nextOrder_2 : decode cX12_nextOrder 2 = .ok (.istore_n 2, 1) := by decide +kernel
theorem dX12_nextOrder_3 : decode cX12_nextOrder 3 = .ok (.iload_n 2, 1) := by decide +kernel
theorem dX12_nextOrder_4 : decode cX12_nextOrder 4 = .ok (.ifCond .lt 36, 3) := by decide +kernel
theorem dX12_nextOrder_7 : decode cX12_nextOrder 7 = .ok (.aload_n 0, 1) := by decide +kernel
theorem dX12_nextOrder_8 : decode cX12_nextOrder 8 = .ok (.getfield 42, 3) := by decide +kernel
theorem dX12_nextOrder_11 : decode cX12_nextOrder 11 = .ok (.iload_n 2, 1) := by decide +kernel
theorem dX12_nextOrder_12 : decode cX12_nextOrder 12 = .ok (.iaload, 1) := by decide +kernel
theorem dX12_nextOrder_13 : decode cX12_nextOrder 13 = .ok (.aload_n 0, 1) := by decide +kernel
theorem dX12_nextOrder_14 : decode cX12_nextOrder 14 = .ok (.getfield 10, 3) := by decide +kernel
theorem dX12_nextOrder_17 : decode cX12_nextOrder 17 = .ok (.iload_n 1, 1) := by decide +kernel
theorem dX12_nextOrder_18 : decode cX12_nextOrder 18 = .ok (.bipush 64, 2) := by decide +kernel
theorem dX12_nextOrder_20 : decode cX12_nextOrder 20 = .ok (.iadd, 1) := by decide +kernel
theorem dX12_nextOrder_21 : decode cX12_nextOrder 21 = .ok (.iload_n 2, 1) := by decide +kernel
theorem dX12_nextOrder_22 : decode cX12_nextOrder 22 = .ok (.iadd, 1) := by decide +kernel
theorem dX12_nextOrder_23 : decode cX12_nextOrder 23 = .ok (.iaload, 1) := by decide +kernel
theorem dX12_nextOrder_24 : decode cX12_nextOrder 24 = .ok (.if_icmp .ne 16, 3) := by decide +kernel
theorem dX12_nextOrder_27 : decode cX12_nextOrder 27 = .ok (.aload_n 0, 1) := by decide +kernel
theorem dX12_nextOrder_28 : decode cX12_nextOrder 28 = .ok (.getfield 42, 3) := by decide +kernel
theorem dX12_nextOrder_31 : decode cX12_nextOrder 31 = .ok (.iload_n 2, 1) := by decide +kernel
theorem dX12_nextOrder_32 : decode cX12_nextOrder 32 = .ok (.iconst 0, 1) := by decide +kernel
theorem dX12_nextOrder_33 : decode cX12_nextOrder 33 = .ok (.iastore, 1) := by decide +kernel
theorem dX12_nextOrder_34 : decode cX12_nextOrder 34 = .ok (.iinc 2 (-1), 3) := by decide +kernel
theorem dX12_nextOrder_37 : decode cX12_nextOrder 37 = .ok (.goto (-34), 3) := by decide +kernel
theorem dX12_nextOrder_40 : decode cX12_nextOrder 40 = .ok (.iload_n 2, 1) := by decide +kernel
theorem dX12_nextOrder_41 : decode cX12_nextOrder 41 = .ok (.ifCond .lt 13, 3) := by decide +kernel
theorem dX12_nextOrder_44 : decode cX12_nextOrder 44 = .ok (.aload_n 0, 1) := by decide +kernel
theorem dX12_nextOrder_45 : decode cX12_nextOrder 45 = .ok (.getfield 42, 3) := by decide +kernel
theorem dX12_nextOrder_48 : decode cX12_nextOrder 48 = .ok (.iload_n 2, 1) := by decide +kernel
theorem dX12_nextOrder_49 : decode cX12_nextOrder 49 = .ok (.dup2, 1) := by decide +kernel
theorem dX12_nextOrder_50 : decode cX12_nextOrder 50 = .ok (.iaload, 1) := by decide +kernel
theorem dX12_nextOrder_51 : decode cX12_nextOrder 51 = .ok (.iconst 1, 1) := by decide +kernel
theorem dX12_nextOrder_52 : decode cX12_nextOrder 52 = .ok (.iadd, 1) := by decide +kernel
theorem dX12_nextOrder_53 : decode cX12_nextOrder 53 = .ok (.iastore, 1) := by decide +kernel
theorem dX12_nextOrder_54 : decode cX12_nextOrder 54 = .ok (.return_, 1) := by decide +kernel
theorem dX12_laysOrder_0 : decode cX12_laysOrder 0 = .ok (.iload_n 2, 1) := by decide +kernel
theorem dX12_laysOrder_1 : decode cX12_laysOrder 1 = .ok (.istore_n 3, 1) := by decide +kernel
theorem dX12_laysOrder_2 : decode cX12_laysOrder 2 = .ok (.bipush 15, 2) := by decide +kernel
theorem dX12_laysOrder_4 : decode cX12_laysOrder 4 = .ok (.istore 4, 2) := by decide +kernel
theorem dX12_laysOrder_6 : decode cX12_laysOrder 6 = .ok (.iload 4, 2) := by decide +kernel
theorem dX12_laysOrder_8 : decode cX12_laysOrder 8 = .ok (.ifCond .lt 41, 3) := by decide +kernel
theorem dX12_laysOrder_11 : decode cX12_laysOrder 11 = .ok (.aload_n 0, 1) := by decide +kernel
theorem dX12_laysOrder_12 : decode cX12_laysOrder 12 = .ok (.getfield 10, 3) := by decide +kernel
theorem dX12_laysOrder_15 : decode cX12_laysOrder 15 = .ok (.iload_n 1, 1) := by decide +kernel
theorem dX12_laysOrder_16 : decode cX12_laysOrder 16 = .ok (.bipush 64, 2) := by decide +kernel
theorem dX12_laysOrder_18 : decode cX12_laysOrder 18 = .ok (.iadd, 1) := by decide +kernel
theorem dX12_laysOrder_19 : decode cX12_laysOrder 19 = .ok (.iload 4, 2) := by decide +kernel
theorem dX12_laysOrder_21 : decode cX12_laysOrder 21 = .ok (.iadd, 1) := by decide +kernel
theorem dX12_laysOrder_22 : decode cX12_laysOrder 22 = .ok (.iaload, 1) := by decide +kernel
theorem dX12_laysOrder_23 : decode cX12_laysOrder 23 = .ok (.iconst 1, 1) := by decide +kernel
theorem dX12_laysOrder_24 : decode cX12_laysOrder 24 = .ok (.iadd, 1) := by decide +kernel
theorem dX12_laysOrder_25 : decode cX12_laysOrder 25 = .ok (.istore 5, 2) := by decide +kernel
theorem dX12_laysOrder_27 : decode cX12_laysOrder 27 = .ok (.aload_n 0, 1) := by decide +kernel
theorem dX12_laysOrder_28 : decode cX12_laysOrder 28 = .ok (.getfield 42, 3) := by decide +kernel
theorem dX12_laysOrder_31 : decode cX12_laysOrder 31 = .ok (.iload 4, 2) := by decide +kernel
theorem dX12_laysOrder_33 : decode cX12_laysOrder 33 = .ok (.iload_n 3, 1) := by decide +kernel
theorem dX12_laysOrder_34 : decode cX12_laysOrder 34 = .ok (.iload 5, 2) := by decide +kernel
theorem dX12_laysOrder_36 : decode cX12_laysOrder 36 = .ok (.irem, 1) := by decide +kernel
theorem dX12_laysOrder_37 : decode cX12_laysOrder 37 = .ok (.iastore, 1) := by decide +kernel
theorem dX12_laysOrder_38 : decode cX12_laysOrder 38 = .ok (.iload_n 3, 1) := by decide +kernel
theorem dX12_laysOrder_39 : decode cX12_laysOrder 39 = .ok (.iload 5, 2) := by decide +kernel
theorem dX12_laysOrder_41 : decode cX12_laysOrder 41 = .ok (.idiv, 1) := by decide +kernel
theorem dX12_laysOrder_42 : decode cX12_laysOrder 42 = .ok (.istore_n 3, 1) := by decide +kernel
theorem dX12_laysOrder_43 : decode cX12_laysOrder 43 = .ok (.iinc 4 (-1), 3) := by decide +kernel
theorem dX12_laysOrder_46 : decode cX12_laysOrder 46 = .ok (.goto (-40), 3) := by decide +kernel
theorem dX12_laysOrder_49 : decode cX12_laysOrder 49 = .ok (.return_, 1) := by decide +kernel
theorem dX12_laysImage_0 : decode cX12_laysImage 0 = .ok (.iconst 0, 1) := by decide +kernel
theorem dX12_laysImage_1 : decode cX12_laysImage 1 = .ok (.istore_n 2, 1) := by decide +kernel
theorem dX12_laysImage_2 : decode cX12_laysImage 2 = .ok (.iload_n 2, 1) := by decide +kernel
theorem dX12_laysImage_3 : decode cX12_laysImage 3 = .ok (.bipush 64, 2) := by decide +kernel
theorem dX12_laysImage_5 : decode cX12_laysImage 5 = .ok (.if_icmp .ge 23, 3) := by decide +kernel
theorem dX12_laysImage_8 : decode cX12_laysImage 8 = .ok (.aload_n 0, 1) := by decide +kernel
theorem dX12_laysImage_9 : decode cX12_laysImage 9 = .ok (.getfield 45, 3) := by decide +kernel
theorem dX12_laysImage_12 : decode cX12_laysImage 12 = .ok (.iload_n 2, 1) := by decide +kernel
theorem dX12_laysImage_13 : decode cX12_laysImage 13 = .ok (.aload_n 0, 1) := by decide +kernel
theorem dX12_laysImage_14 : decode cX12_laysImage 14 = .ok (.getfield 10, 3) := by decide +kernel
theorem dX12_laysImage_17 : decode cX12_laysImage 17 = .ok (.iload_n 1, 1) := by decide +kernel
theorem dX12_laysImage_18 : decode cX12_laysImage 18 = .ok (.iload_n 2, 1) := by decide +kernel
theorem dX12_laysImage_19 : decode cX12_laysImage 19 = .ok (.iadd, 1) := by decide +kernel
theorem dX12_laysImage_20 : decode cX12_laysImage 20 = .ok (.iaload, 1) := by decide +kernel
theorem dX12_laysImage_21 : decode cX12_laysImage 21 = .ok (.iastore, 1) := by decide +kernel
theorem dX12_laysImage_22 : decode cX12_laysImage 22 = .ok (.iinc 2 1, 3) := by decide +kernel
theorem dX12_laysImage_25 : decode cX12_laysImage 25 = .ok (.goto (-23), 3) := by decide +kernel
theorem dX12_laysImage_28 : decode cX12_laysImage 28 = .ok (.iconst 0, 1) := by decide +kernel
theorem dX12_laysImage_29 : decode cX12_laysImage 29 = .ok (.istore_n 2, 1) := by decide +kernel
theorem dX12_laysImage_30 : decode cX12_laysImage 30 = .ok (.iload_n 2, 1) := by decide +kernel
theorem dX12_laysImage_31 : decode cX12_laysImage 31 = .ok (.bipush 16, 2) := by decide +kernel
theorem dX12_laysImage_33 : decode cX12_laysImage 33 = .ok (.if_icmp .ge 68, 3) := by decide +kernel
theorem dX12_laysImage_36 : decode cX12_laysImage 36 = .ok (.iload_n 1, 1) := by decide +kernel
theorem dX12_laysImage_37 : decode cX12_laysImage 37 = .ok (.bipush 96, 2) := by decide +kernel
theorem dX12_laysImage_39 : decode cX12_laysImage 39 = .ok (.iadd, 1) := by decide +kernel
theorem dX12_laysImage_40 : decode cX12_laysImage 40 = .ok (.bipush 12, 2) := by decide +kernel
theorem dX12_laysImage_42 : decode cX12_laysImage 42 = .ok (.iload_n 2, 1) := by decide +kernel
theorem dX12_laysImage_43 : decode cX12_laysImage 43 = .ok (.imul, 1) := by decide +kernel
theorem dX12_laysImage_44 : decode cX12_laysImage 44 = .ok (.iadd, 1) := by decide +kernel
theorem dX12_laysImage_45 : decode cX12_laysImage 45 = .ok (.istore_n 3, 1) := by decide +kernel
theorem dX12_laysImage_46 : decode cX12_laysImage 46 = .ok (.iconst 0, 1) := by decide +kernel
theorem dX12_laysImage_47 : decode cX12_laysImage 47 = .ok (.istore 4, 2) := by decide +kernel
theorem dX12_laysImage_49 : decode cX12_laysImage 49 = .ok (.iload 4, 2) := by decide +kernel
theorem dX12_laysImage_51 : decode cX12_laysImage 51 = .ok (.aload_n 0, 1) := by decide +kernel
theorem dX12_laysImage_52 : decode cX12_laysImage 52 = .ok (.getfield 42, 3) := by decide +kernel
theorem dX12_laysImage_55 : decode cX12_laysImage 55 = .ok (.iload_n 2, 1) := by decide +kernel
theorem dX12_laysImage_56 : decode cX12_laysImage 56 = .ok (.iaload, 1) := by decide +kernel
theorem dX12_laysImage_57 : decode cX12_laysImage 57 = .ok (.if_icmp .ge 38, 3) := by decide +kernel
theorem dX12_laysImage_60 : decode cX12_laysImage 60 = .ok (.aload_n 0, 1) := by decide +kernel
theorem dX12_laysImage_61 : decode cX12_laysImage 61 = .ok (.getfield 45, 3) := by decide +kernel
theorem dX12_laysImage_64 : decode cX12_laysImage 64 = .ok (.aload_n 0, 1) := by decide +kernel
theorem dX12_laysImage_65 : decode cX12_laysImage 65 = .ok (.getfield 10, 3) := by decide +kernel
theorem dX12_laysImage_68 : decode cX12_laysImage 68 = .ok (.iload_n 3, 1) := by decide +kernel
theorem dX12_laysImage_69 : decode cX12_laysImage 69 = .ok (.iconst 2, 1) := by decide +kernel
theorem dX12_laysImage_70 : decode cX12_laysImage 70 = .ok (.iload 4, 2) := by decide +kernel
theorem dX12_laysImage_72 : decode cX12_laysImage 72 = .ok (.imul, 1) := by decide +kernel
theorem dX12_laysImage_73 : decode cX12_laysImage 73 = .ok (.iadd, 1) := by decide +kernel
theorem dX12_laysImage_74 : decode cX12_laysImage 74 = .ok (.iaload, 1) := by decide +kernel
theorem dX12_laysImage_75 : decode cX12_laysImage 75 = .ok (.aload_n 0, 1) := by decide +kernel
theorem dX12_laysImage_76 : decode cX12_laysImage 76 = .ok (.getfield 10, 3) := by decide +kernel
theorem dX12_laysImage_79 : decode cX12_laysImage 79 = .ok (.iload_n 3, 1) := by decide +kernel
theorem dX12_laysImage_80 : decode cX12_laysImage 80 = .ok (.iconst 2, 1) := by decide +kernel
theorem dX12_laysImage_81 : decode cX12_laysImage 81 = .ok (.iload 4, 2) := by decide +kernel
theorem dX12_laysImage_83 : decode cX12_laysImage 83 = .ok (.imul, 1) := by decide +kernel
theorem dX12_laysImage_84 : decode cX12_laysImage 84 = .ok (.iadd, 1) := by decide +kernel
theorem dX12_laysImage_85 : decode cX12_laysImage 85 = .ok (.iconst 1, 1) := by decide +kernel
theorem dX12_laysImage_86 : decode cX12_laysImage 86 = .ok (.iadd, 1) := by decide +kernel
theorem dX12_laysImage_87 : decode cX12_laysImage 87 = .ok (.iaload, 1) := by decide +kernel
theorem dX12_laysImage_88 : decode cX12_laysImage 88 = .ok (.iastore, 1) := by decide +kernel
theorem dX12_laysImage_89 : decode cX12_laysImage 89 = .ok (.iinc 4 1, 3) := by decide +kernel
theorem dX12_laysImage_92 : decode cX12_laysImage 92 = .ok (.goto (-43), 3) := by decide +kernel
theorem dX12_laysImage_95 : decode cX12_laysImage 95 = .ok (.iinc 2 1, 3) := by decide +kernel
theorem dX12_laysImage_98 : decode cX12_laysImage 98 = .ok (.goto (-68), 3) := by decide +kernel
theorem dX12_laysImage_101 : decode cX12_laysImage 101 = .ok (.return_, 1) := by decide +kernel
theorem dX12_laysWell_0 : decode cX12_laysWell 0 = .ok (.aload_n 0, 1) := by decide +kernel
theorem dX12_laysWell_1 : decode cX12_laysWell 1 = .ok (.aload_n 0, 1) := by decide +kernel
theorem dX12_laysWell_2 : decode cX12_laysWell 2 = .ok (.getfield 10, 3) := by decide +kernel
theorem dX12_laysWell_5 : decode cX12_laysWell 5 = .ok (.iload_n 1, 1) := by decide +kernel
theorem dX12_laysWell_6 : decode cX12_laysWell 6 = .ok (.sipush 776, 3) := by decide +kernel
theorem dX12_laysWell_9 : decode cX12_laysWell 9 = .ok (.iadd, 1) := by decide +kernel
theorem dX12_laysWell_10 : decode cX12_laysWell 10 = .ok (.iaload, 1) := by decide +kernel
theorem dX12_laysWell_11 : decode cX12_laysWell 11 = .ok (.iconst 1, 1) := by decide +kernel
theorem dX12_laysWell_12 : decode cX12_laysWell 12 = .ok (.if_icmp .ne 7, 3) := by decide +kernel
theorem dX12_laysWell_15 : decode cX12_laysWell 15 = .ok (.iconst 1, 1) := by decide +kernel
theorem dX12_laysWell_16 : decode cX12_laysWell 16 = .ok (.goto 4, 3) := by decide +kernel
theorem dX12_laysWell_19 : decode cX12_laysWell 19 = .ok (.iconst 0, 1) := by decide +kernel
theorem dX12_laysWell_20 : decode cX12_laysWell 20 = .ok (.putfield 181, 3) := by decide +kernel
theorem dX12_laysWell_23 : decode cX12_laysWell 23 = .ok (.aload_n 0, 1) := by decide +kernel
theorem dX12_laysWell_24 : decode cX12_laysWell 24 = .ok (.getfield 10, 3) := by decide +kernel
theorem dX12_laysWell_27 : decode cX12_laysWell 27 = .ok (.iload_n 1, 1) := by decide +kernel
theorem dX12_laysWell_28 : decode cX12_laysWell 28 = .ok (.sipush 772, 3) := by decide +kernel
theorem dX12_laysWell_31 : decode cX12_laysWell 31 = .ok (.iadd, 1) := by decide +kernel
theorem dX12_laysWell_32 : decode cX12_laysWell 32 = .ok (.iaload, 1) := by decide +kernel
theorem dX12_laysWell_33 : decode cX12_laysWell 33 = .ok (.iconst 1, 1) := by decide +kernel
theorem dX12_laysWell_34 : decode cX12_laysWell 34 = .ok (.if_icmp .ne 16, 3) := by decide +kernel
theorem dX12_laysWell_37 : decode cX12_laysWell 37 = .ok (.aload_n 0, 1) := by decide +kernel
theorem dX12_laysWell_38 : decode cX12_laysWell 38 = .ok (.iload_n 1, 1) := by decide +kernel
theorem dX12_laysWell_39 : decode cX12_laysWell 39 = .ok (.invokevirtual 175, 3) := by decide +kernel
theorem dX12_laysWell_42 : decode cX12_laysWell 42 = .ok (.aload_n 0, 1) := by decide +kernel
theorem dX12_laysWell_43 : decode cX12_laysWell 43 = .ok (.aload_n 0, 1) := by decide +kernel
theorem dX12_laysWell_44 : decode cX12_laysWell 44 = .ok (.getfield 39, 3) := by decide +kernel
theorem dX12_laysWell_47 : decode cX12_laysWell 47 = .ok (.invokevirtual 178, 3) := by decide +kernel
theorem dX12_laysWell_50 : decode cX12_laysWell 50 = .ok (.iconst 0, 1) := by decide +kernel
theorem dX12_laysWell_51 : decode cX12_laysWell 51 = .ok (.istore_n 2, 1) := by decide +kernel
theorem dX12_laysWell_52 : decode cX12_laysWell 52 = .ok (.iload_n 2, 1) := by decide +kernel
theorem dX12_laysWell_53 : decode cX12_laysWell 53 = .ok (.bipush 44, 2) := by decide +kernel
theorem dX12_laysWell_55 : decode cX12_laysWell 55 = .ok (.if_icmp .ge 99, 3) := by decide +kernel
theorem dX12_laysWell_58 : decode cX12_laysWell 58 = .ok (.aload_n 0, 1) := by decide +kernel
theorem dX12_laysWell_59 : decode cX12_laysWell 59 = .ok (.getfield 48, 3) := by decide +kernel
theorem dX12_laysWell_62 : decode cX12_laysWell 62 = .ok (.iload_n 2, 1) := by decide +kernel
theorem dX12_laysWell_63 : decode cX12_laysWell 63 = .ok (.aload_n 0, 1) := by decide +kernel
theorem dX12_laysWell_64 : decode cX12_laysWell 64 = .ok (.getfield 10, 3) := by decide +kernel
theorem dX12_laysWell_67 : decode cX12_laysWell 67 = .ok (.iload_n 1, 1) := by decide +kernel
theorem dX12_laysWell_68 : decode cX12_laysWell 68 = .ok (.sipush 772, 3) := by decide +kernel
theorem dX12_laysWell_71 : decode cX12_laysWell 71 = .ok (.iadd, 1) := by decide +kernel
theorem dX12_laysWell_72 : decode cX12_laysWell 72 = .ok (.iaload, 1) := by decide +kernel
theorem dX12_laysWell_73 : decode cX12_laysWell 73 = .ok (.iconst 1, 1) := by decide +kernel
theorem dX12_laysWell_74 : decode cX12_laysWell 74 = .ok (.if_icmp .ne 15, 3) := by decide +kernel
theorem dX12_laysWell_77 : decode cX12_laysWell 77 = .ok (.aload_n 0, 1) := by decide +kernel
theorem dX12_laysWell_78 : decode cX12_laysWell 78 = .ok (.getfield 39, 3) := by decide +kernel
theorem dX12_laysWell_81 : decode cX12_laysWell 81 = .ok (.bipush 20, 2) := by decide +kernel
theorem dX12_laysWell_83 : decode cX12_laysWell 83 = .ok (.iload_n 2, 1) := by decide +kernel
theorem dX12_laysWell_84 : decode cX12_laysWell 84 = .ok (.iadd, 1) := by decide +kernel
theorem dX12_laysWell_85 : decode cX12_laysWell 85 = .ok (.iaload, 1) := by decide +kernel
theorem dX12_laysWell_86 : decode cX12_laysWell 86 = .ok (.goto 40, 3) := by decide +kernel
theorem dX12_laysWell_89 : decode cX12_laysWell 89 = .ok (.aload_n 0, 1) := by decide +kernel
theorem dX12_laysWell_90 : decode cX12_laysWell 90 = .ok (.getfield 10, 3) := by decide +kernel
theorem dX12_laysWell_93 : decode cX12_laysWell 93 = .ok (.iload_n 1, 1) := by decide +kernel
theorem dX12_laysWell_94 : decode cX12_laysWell 94 = .ok (.sipush 776, 3) := by decide +kernel
theorem dX12_laysWell_97 : decode cX12_laysWell 97 = .ok (.iadd, 1) := by decide +kernel
theorem dX12_laysWell_98 : decode cX12_laysWell 98 = .ok (.iaload, 1) := by decide +kernel
theorem dX12_laysWell_99 : decode cX12_laysWell 99 = .ok (.ifCond .eq 18, 3) := by decide +kernel
theorem dX12_laysWell_102 : decode cX12_laysWell 102 = .ok (.aload_n 0, 1) := by decide +kernel
theorem dX12_laysWell_103 : decode cX12_laysWell 103 = .ok (.getfield 10, 3) := by decide +kernel
theorem dX12_laysWell_106 : decode cX12_laysWell 106 = .ok (.iload_n 1, 1) := by decide +kernel
theorem dX12_laysWell_107 : decode cX12_laysWell 107 = .ok (.sipush 528, 3) := by decide +kernel
theorem dX12_laysWell_110 : decode cX12_laysWell 110 = .ok (.iadd, 1) := by decide +kernel
theorem dX12_laysWell_111 : decode cX12_laysWell 111 = .ok (.iload_n 2, 1) := by decide +kernel
theorem dX12_laysWell_112 : decode cX12_laysWell 112 = .ok (.iadd, 1) := by decide +kernel
theorem dX12_laysWell_113 : decode cX12_laysWell 113 = .ok (.iaload, 1) := by decide +kernel
theorem dX12_laysWell_114 : decode cX12_laysWell 114 = .ok (.goto 12, 3) := by decide +kernel
theorem dX12_laysWell_117 : decode cX12_laysWell 117 = .ok (.aload_n 0, 1) := by decide +kernel
theorem dX12_laysWell_118 : decode cX12_laysWell 118 = .ok (.iload_n 1, 1) := by decide +kernel
theorem dX12_laysWell_119 : decode cX12_laysWell 119 = .ok (.bipush 20, 2) := by decide +kernel
theorem dX12_laysWell_121 : decode cX12_laysWell 121 = .ok (.iload_n 2, 1) := by decide +kernel
theorem dX12_laysWell_122 : decode cX12_laysWell 122 = .ok (.iadd, 1) := by decide +kernel
theorem dX12_laysWell_123 : decode cX12_laysWell 123 = .ok (.invokevirtual 118, 3) := by decide +kernel
theorem dX12_laysWell_126 : decode cX12_laysWell 126 = .ok (.iastore, 1) := by decide +kernel
theorem dX12_laysWell_127 : decode cX12_laysWell 127 = .ok (.aload_n 0, 1) := by decide +kernel
theorem dX12_laysWell_128 : decode cX12_laysWell 128 = .ok (.getfield 48, 3) := by decide +kernel
theorem dX12_laysWell_131 : decode cX12_laysWell 131 = .ok (.bipush 44, 2) := by decide +kernel
theorem dX12_laysWell_133 : decode cX12_laysWell 133 = .ok (.iload_n 2, 1) := by decide +kernel
theorem dX12_laysWell_134 : decode cX12_laysWell 134 = .ok (.iadd, 1) := by decide +kernel
theorem dX12_laysWell_135 : decode cX12_laysWell 135 = .ok (.aload_n 0, 1) := by decide +kernel
theorem dX12_laysWell_136 : decode cX12_laysWell 136 = .ok (.getfield 10, 3) := by decide +kernel
theorem dX12_laysWell_139 : decode cX12_laysWell 139 = .ok (.iload_n 1, 1) := by decide +kernel
theorem dX12_laysWell_140 : decode cX12_laysWell 140 = .ok (.sipush 572, 3) := by decide +kernel
theorem dX12_laysWell_143 : decode cX12_laysWell 143 = .ok (.iadd, 1) := by decide +kernel
theorem dX12_laysWell_144 : decode cX12_laysWell 144 = .ok (.iload_n 2, 1) := by decide +kernel
theorem dX12_laysWell_145 : decode cX12_laysWell 145 = .ok (.iadd, 1) := by decide +kernel
theorem dX12_laysWell_146 : decode cX12_laysWell 146 = .ok (.iaload, 1) := by decide +kernel
theorem dX12_laysWell_147 : decode cX12_laysWell 147 = .ok (.iastore, 1) := by decide +kernel
theorem dX12_laysWell_148 : decode cX12_laysWell 148 = .ok (.iinc 2 1, 3) := by decide +kernel
theorem dX12_laysWell_151 : decode cX12_laysWell 151 = .ok (.goto (-99), 3) := by decide +kernel
theorem dX12_laysWell_154 : decode cX12_laysWell 154 = .ok (.return_, 1) := by decide +kernel
theorem dX12_fateHere_0 : decode cX12_fateHere 0 = .ok (.aload_n 0, 1) := by decide +kernel
theorem dX12_fateHere_1 : decode cX12_fateHere 1 = .ok (.iload_n 1, 1) := by decide +kernel
theorem dX12_fateHere_2 : decode cX12_fateHere 2 = .ok (.invokevirtual 185, 3) := by decide +kernel
theorem dX12_fateHere_5 : decode cX12_fateHere 5 = .ok (.aload_n 0, 1) := by decide +kernel
theorem dX12_fateHere_6 : decode cX12_fateHere 6 = .ok (.aload_n 0, 1) := by decide +kernel
theorem dX12_fateHere_7 : decode cX12_fateHere 7 = .ok (.getfield 45, 3) := by decide +kernel
theorem dX12_fateHere_10 : decode cX12_fateHere 10 = .ok (.invokevirtual 178, 3) := by decide +kernel
theorem dX12_fateHere_13 : decode cX12_fateHere 13 = .ok (.iconst 1, 1) := by decide +kernel
theorem dX12_fateHere_14 : decode cX12_fateHere 14 = .ok (.istore_n 2, 1) := by decide +kernel
theorem dX12_fateHere_15 : decode cX12_fateHere 15 = .ok (.aload_n 0, 1) := by decide +kernel
theorem dX12_fateHere_16 : decode cX12_fateHere 16 = .ok (.getfield 181, 3) := by decide +kernel
theorem dX12_fateHere_19 : decode cX12_fateHere 19 = .ok (.istore_n 3, 1) := by decide +kernel
theorem dX12_fateHere_20 : decode cX12_fateHere 20 = .ok (.iconst 0, 1) := by decide +kernel
theorem dX12_fateHere_21 : decode cX12_fateHere 21 = .ok (.istore 4, 2) := by decide +kernel
theorem dX12_fateHere_23 : decode cX12_fateHere 23 = .ok (.iload 4, 2) := by decide +kernel
theorem dX12_fateHere_25 : decode cX12_fateHere 25 = .ok (.bipush 44, 2) := by decide +kernel
theorem dX12_fateHere_27 : decode cX12_fateHere 27 = .ok (.if_icmp .ge 72, 3) := by decide +kernel
theorem dX12_fateHere_30 : decode cX12_fateHere 30 = .ok (.iload_n 2, 1) := by decide +kernel
theorem dX12_fateHere_31 : decode cX12_fateHere 31 = .ok (.ifCond .eq 27, 3) := by decide +kernel
theorem dX12_fateHere_34 : decode cX12_fateHere 34 = .ok (.aload_n 0, 1) := by decide +kernel
theorem dX12_fateHere_35 : decode cX12_fateHere 35 = .ok (.getfield 45, 3) := by decide +kernel
theorem dX12_fateHere_38 : decode cX12_fateHere 38 = .ok (.bipush 20, 2) := by decide +kernel
theorem dX12_fateHere_40 : decode cX12_fateHere 40 = .ok (.iload 4, 2) := by decide +kernel
theorem dX12_fateHere_42 : decode cX12_fateHere 42 = .ok (.iadd, 1) := by decide +kernel
theorem dX12_fateHere_43 : decode cX12_fateHere 43 = .ok (.iaload, 1) := by decide +kernel
theorem dX12_fateHere_44 : decode cX12_fateHere 44 = .ok (.aload_n 0, 1) := by decide +kernel
theorem dX12_fateHere_45 : decode cX12_fateHere 45 = .ok (.getfield 48, 3) := by decide +kernel
theorem dX12_fateHere_48 : decode cX12_fateHere 48 = .ok (.iload 4, 2) := by decide +kernel
theorem dX12_fateHere_50 : decode cX12_fateHere 50 = .ok (.iaload, 1) := by decide +kernel
theorem dX12_fateHere_51 : decode cX12_fateHere 51 = .ok (.if_icmp .ne 7, 3) := by decide +kernel
theorem dX12_fateHere_54 : decode cX12_fateHere 54 = .ok (.iconst 1, 1) := by decide +kernel
theorem dX12_fateHere_55 : decode cX12_fateHere 55 = .ok (.goto 4, 3) := by decide +kernel
theorem dX12_fateHere_58 : decode cX12_fateHere 58 = .ok (.iconst 0, 1) := by decide +kernel
theorem dX12_fateHere_59 : decode cX12_fateHere 59 = .ok (.istore_n 2, 1) := by decide +kernel
theorem dX12_fateHere_60 : decode cX12_fateHere 60 = .ok (.iload_n 3, 1) := by decide +kernel
theorem dX12_fateHere_61 : decode cX12_fateHere 61 = .ok (.ifCond .eq 30, 3) := by decide +kernel
theorem dX12_fateHere_64 : decode cX12_fateHere 64 = .ok (.aload_n 0, 1) := by decide +kernel
theorem dX12_fateHere_65 : decode cX12_fateHere 65 = .ok (.getfield 45, 3) := by decide +kernel
theorem dX12_fateHere_68 : decode cX12_fateHere 68 = .ok (.bipush 20, 2) := by decide +kernel
theorem dX12_fateHere_70 : decode cX12_fateHere 70 = .ok (.iload 4, 2) := by decide +kernel
theorem dX12_fateHere_72 : decode cX12_fateHere 72 = .ok (.iadd, 1) := by decide +kernel
theorem dX12_fateHere_73 : decode cX12_fateHere 73 = .ok (.iaload, 1) := by decide +kernel
theorem dX12_fateHere_74 : decode cX12_fateHere 74 = .ok (.aload_n 0, 1) := by decide +kernel
theorem dX12_fateHere_75 : decode cX12_fateHere 75 = .ok (.getfield 48, 3) := by decide +kernel
theorem dX12_fateHere_78 : decode cX12_fateHere 78 = .ok (.bipush 44, 2) := by decide +kernel
theorem dX12_fateHere_80 : decode cX12_fateHere 80 = .ok (.iload 4, 2) := by decide +kernel
theorem dX12_fateHere_82 : decode cX12_fateHere 82 = .ok (.iadd, 1) := by decide +kernel
theorem dX12_fateHere_83 : decode cX12_fateHere 83 = .ok (.iaload, 1) := by decide +kernel
theorem dX12_fateHere_84 : decode cX12_fateHere 84 = .ok (.if_icmp .ne 7, 3) := by decide +kernel
theorem dX12_fateHere_87 : decode cX12_fateHere 87 = .ok (.iconst 1, 1) := by decide +kernel
theorem dX12_fateHere_88 : decode cX12_fateHere 88 = .ok (.goto 4, 3) := by decide +kernel
theorem dX12_fateHere_91 : decode cX12_fateHere 91 = .ok (.iconst 0, 1) := by decide +kernel
theorem dX12_fateHere_92 : decode cX12_fateHere 92 = .ok (.istore_n 3, 1) := by decide +kernel
theorem dX12_fateHere_93 : decode cX12_fateHere 93 = .ok (.iinc 4 1, 3) := by decide +kernel
theorem dX12_fateHere_96 : decode cX12_fateHere 96 = .ok (.goto (-73), 3) := by decide +kernel
theorem dX12_fateHere_99 : decode cX12_fateHere 99 = .ok (.aload_n 0, 1) := by decide +kernel
theorem dX12_fateHere_100 : decode cX12_fateHere 100 = .ok (.getfield 181, 3) := by decide +kernel
theorem dX12_fateHere_103 : decode cX12_fateHere 103 = .ok (.ifCond .ne 13, 3) := by decide +kernel
theorem dX12_fateHere_106 : decode cX12_fateHere 106 = .ok (.iload_n 2, 1) := by decide +kernel
theorem dX12_fateHere_107 : decode cX12_fateHere 107 = .ok (.ifCond .eq 7, 3) := by decide +kernel
theorem dX12_fateHere_110 : decode cX12_fateHere 110 = .ok (.iconst 2, 1) := by decide +kernel
theorem dX12_fateHere_111 : decode cX12_fateHere 111 = .ok (.goto 4, 3) := by decide +kernel
theorem dX12_fateHere_114 : decode cX12_fateHere 114 = .ok (.iconst 3, 1) := by decide +kernel
theorem dX12_fateHere_115 : decode cX12_fateHere 115 = .ok (.ireturn, 1) := by decide +kernel
theorem dX12_fateHere_116 : decode cX12_fateHere 116 = .ok (.iload_n 2, 1) := by decide +kernel
theorem dX12_fateHere_117 : decode cX12_fateHere 117 = .ok (.ifCond .eq 11, 3) := by decide +kernel
theorem dX12_fateHere_120 : decode cX12_fateHere 120 = .ok (.iload_n 3, 1) := by decide +kernel
theorem dX12_fateHere_121 : decode cX12_fateHere 121 = .ok (.ifCond .eq 7, 3) := by decide +kernel
theorem dX12_fateHere_124 : decode cX12_fateHere 124 = .ok (.iconst 2, 1) := by decide +kernel
theorem dX12_fateHere_125 : decode cX12_fateHere 125 = .ok (.goto 20, 3) := by decide +kernel
theorem dX12_fateHere_128 : decode cX12_fateHere 128 = .ok (.iload_n 2, 1) := by decide +kernel
theorem dX12_fateHere_129 : decode cX12_fateHere 129 = .ok (.ifCond .eq 7, 3) := by decide +kernel
theorem dX12_fateHere_132 : decode cX12_fateHere 132 = .ok (.iconst 0, 1) := by decide +kernel
theorem dX12_fateHere_133 : decode cX12_fateHere 133 = .ok (.goto 12, 3) := by decide +kernel
theorem dX12_fateHere_136 : decode cX12_fateHere 136 = .ok (.iload_n 3, 1) := by decide +kernel
theorem dX12_fateHere_137 : decode cX12_fateHere 137 = .ok (.ifCond .eq 7, 3) := by decide +kernel
theorem dX12_fateHere_140 : decode cX12_fateHere 140 = .ok (.iconst 1, 1) := by decide +kernel
theorem dX12_fateHere_141 : decode cX12_fateHere 141 = .ok (.goto 4, 3) := by decide +kernel
theorem dX12_fateHere_144 : decode cX12_fateHere 144 = .ok (.iconst 3, 1) := by decide +kernel
theorem dX12_fateHere_145 : decode cX12_fateHere 145 = .ok (.ireturn, 1) := by decide +kernel
theorem dX12_looks_0 : decode cX12_looks 0 = .ok (.aload_n 0, 1) := by decide +kernel
theorem dX12_looks_1 : decode cX12_looks 1 = .ok (.iload_n 1, 1) := by decide +kernel
theorem dX12_looks_2 : decode cX12_looks 2 = .ok (.invokevirtual 188, 3) := by decide +kernel
theorem dX12_looks_5 : decode cX12_looks 5 = .ok (.lstore_n 3, 1) := by decide +kernel
theorem dX12_looks_6 : decode cX12_looks 6 = .ok (.aload_n 0, 1) := by decide +kernel
theorem dX12_looks_7 : decode cX12_looks 7 = .ok (.lload_n 3, 1) := by decide +kernel
theorem dX12_looks_8 : decode cX12_looks 8 = .ok (.ldc2_w 192, 3) := by decide +kernel
theorem dX12_looks_11 : decode cX12_looks 11 = .ok (.lcmp, 1) := by decide +kernel
theorem dX12_looks_12 : decode cX12_looks 12 = .ok (.ifCond .le 7, 3) := by decide +kernel
theorem dX12_looks_15 : decode cX12_looks 15 = .ok (.iconst 1, 1) := by decide +kernel
theorem dX12_looks_16 : decode cX12_looks 16 = .ok (.goto 4, 3) := by decide +kernel
theorem dX12_looks_19 : decode cX12_looks 19 = .ok (.iconst 0, 1) := by decide +kernel
theorem dX12_looks_20 : decode cX12_looks 20 = .ok (.putfield 194, 3) := by decide +kernel
theorem dX12_looks_23 : decode cX12_looks 23 = .ok (.aload_n 0, 1) := by decide +kernel
theorem dX12_looks_24 : decode cX12_looks 24 = .ok (.getfield 194, 3) := by decide +kernel
theorem dX12_looks_27 : decode cX12_looks 27 = .ok (.ifCond .eq 4, 3) := by decide +kernel
theorem dX12_looks_30 : decode cX12_looks 30 = .ok (.return_, 1) := by decide +kernel
theorem dX12_looks_31 : decode cX12_looks 31 = .ok (.aload_n 0, 1) := by decide +kernel
theorem dX12_looks_32 : decode cX12_looks 32 = .ok (.iload_n 1, 1) := by decide +kernel
theorem dX12_looks_33 : decode cX12_looks 33 = .ok (.invokevirtual 197, 3) := by decide +kernel
theorem dX12_looks_36 : decode cX12_looks 36 = .ok (.aload_n 0, 1) := by decide +kernel
theorem dX12_looks_37 : decode cX12_looks 37 = .ok (.invokevirtual 200, 3) := by decide +kernel
theorem dX12_looks_40 : decode cX12_looks 40 = .ok (.iconst 0, 1) := by decide +kernel
theorem dX12_looks_41 : decode cX12_looks 41 = .ok (.istore 5, 2) := by decide +kernel
theorem dX12_looks_43 : decode cX12_looks 43 = .ok (.iload 5, 2) := by decide +kernel
theorem dX12_looks_45 : decode cX12_looks 45 = .ok (.i2l, 1) := by decide +kernel
theorem dX12_looks_46 : decode cX12_looks 46 = .ok (.lload_n 3, 1) := by decide +kernel
theorem dX12_looks_47 : decode cX12_looks 47 = .ok (.lcmp, 1) := by decide +kernel
theorem dX12_looks_48 : decode cX12_looks 48 = .ok (.ifCond .ge 52, 3) := by decide +kernel
theorem dX12_looks_51 : decode cX12_looks 51 = .ok (.aload_n 0, 1) := by decide +kernel
theorem dX12_looks_52 : decode cX12_looks 52 = .ok (.iload_n 1, 1) := by decide +kernel
theorem dX12_looks_53 : decode cX12_looks 53 = .ok (.invokevirtual 203, 3) := by decide +kernel
theorem dX12_looks_56 : decode cX12_looks 56 = .ok (.iconst 3, 1) := by decide +kernel
theorem dX12_looks_57 : decode cX12_looks 57 = .ok (.if_icmp .ne 32, 3) := by decide +kernel
theorem dX12_looks_60 : decode cX12_looks 60 = .ok (.aload_n 0, 1) := by decide +kernel
theorem dX12_looks_61 : decode cX12_looks 61 = .ok (.dup, 1) := by decide +kernel
theorem dX12_looks_62 : decode cX12_looks 62 = .ok (.getfield 206, 3) := by decide +kernel
theorem dX12_looks_65 : decode cX12_looks 65 = .ok (.iconst 1, 1) := by decide +kernel
theorem dX12_looks_66 : decode cX12_looks 66 = .ok (.iadd, 1) := by decide +kernel
theorem dX12_looks_67 : decode cX12_looks 67 = .ok (.putfield 206, 3) := by decide +kernel
theorem dX12_looks_70 : decode cX12_looks 70 = .ok (.aload_n 0, 1) := by decide +kernel
theorem dX12_looks_71 : decode cX12_looks 71 = .ok (.getfield 209, 3) := by decide +kernel
theorem dX12_looks_74 : decode cX12_looks 74 = .ok (.iconst (-1), 1) := by decide +kernel
theorem dX12_looks_75 : decode cX12_looks 75 = .ok (.if_icmp .ne 14, 3) := by decide +kernel
theorem dX12_looks_78 : decode cX12_looks 78 = .ok (.aload_n 0, 1) := by decide +kernel
theorem dX12_looks_79 : decode cX12_looks 79 = .ok (.iload_n 2, 1) := by decide +kernel
theorem dX12_looks_80 : decode cX12_looks 80 = .ok (.putfield 209, 3) := by decide +kernel
theorem dX12_looks_83 : decode cX12_looks 83 = .ok (.aload_n 0, 1) := by decide +kernel
theorem dX12_looks_84 : decode cX12_looks 84 = .ok (.iload 5, 2) := by decide +kernel
theorem dX12_looks_86 : decode cX12_looks 86 = .ok (.putfield 212, 3) := by decide +kernel
theorem dX12_looks_89 : decode cX12_looks 89 = .ok (.aload_n 0, 1) := by decide +kernel
theorem dX12_looks_90 : decode cX12_looks 90 = .ok (.iload_n 1, 1) := by decide +kernel
theorem dX12_looks_91 : decode cX12_looks 91 = .ok (.invokevirtual 215, 3) := by decide +kernel
theorem dX12_looks_94 : decode cX12_looks 94 = .ok (.iinc 5 1, 3) := by decide +kernel
theorem dX12_looks_97 : decode cX12_looks 97 = .ok (.goto (-54), 3) := by decide +kernel
theorem dX12_looks_100 : decode cX12_looks 100 = .ok (.return_, 1) := by decide +kernel
theorem dX12_checks_0 : decode cX12_checks 0 = .ok (.aload_n 0, 1) := by decide +kernel
theorem dX12_checks_1 : decode cX12_checks 1 = .ok (.invokevirtual 218, 3) := by decide +kernel
theorem dX12_checks_4 : decode cX12_checks 4 = .ok (.aload_n 0, 1) := by decide +kernel
theorem dX12_checks_5 : decode cX12_checks 5 = .ok (.getfield 10, 3) := by decide +kernel
theorem dX12_checks_8 : decode cX12_checks 8 = .ok (.sipush 1559, 3) := by decide +kernel
theorem dX12_checks_11 : decode cX12_checks 11 = .ok (.iload_n 1, 1) := by decide +kernel
theorem dX12_checks_12 : decode cX12_checks 12 = .ok (.iastore, 1) := by decide +kernel
theorem dX12_checks_13 : decode cX12_checks 13 = .ok (.aload_n 0, 1) := by decide +kernel
theorem dX12_checks_14 : decode cX12_checks 14 = .ok (.iconst 0, 1) := by decide +kernel
theorem dX12_checks_15 : decode cX12_checks 15 = .ok (.putfield 206, 3) := by decide +kernel
theorem dX12_checks_18 : decode cX12_checks 18 = .ok (.aload_n 0, 1) := by decide +kernel
theorem dX12_checks_19 : decode cX12_checks 19 = .ok (.aload_n 0, 1) := by decide +kernel
theorem dX12_checks_20 : decode cX12_checks 20 = .ok (.iconst (-1), 1) := by decide +kernel
theorem dX12_checks_21 : decode cX12_checks 21 = .ok (.dup_x1, 1) := by decide +kernel
theorem dX12_checks_22 : decode cX12_checks 22 = .ok (.putfield 212, 3) := by decide +kernel
theorem dX12_checks_25 : decode cX12_checks 25 = .ok (.putfield 209, 3) := by decide +kernel
theorem dX12_checks_28 : decode cX12_checks 28 = .ok (.aload_n 0, 1) := by decide +kernel
theorem dX12_checks_29 : decode cX12_checks 29 = .ok (.getfield 10, 3) := by decide +kernel
theorem dX12_checks_32 : decode cX12_checks 32 = .ok (.sipush 1558, 3) := by decide +kernel
theorem dX12_checks_35 : decode cX12_checks 35 = .ok (.iaload, 1) := by decide +kernel
theorem dX12_checks_36 : decode cX12_checks 36 = .ok (.iconst 1, 1) := by decide +kernel
theorem dX12_checks_37 : decode cX12_checks 37 = .ok (.if_icmp .ne 7, 3) := by decide +kernel
theorem dX12_checks_40 : decode cX12_checks 40 = .ok (.iconst 1, 1) := by decide +kernel
theorem dX12_checks_41 : decode cX12_checks 41 = .ok (.goto 4, 3) := by decide +kernel
theorem dX12_checks_44 : decode cX12_checks 44 = .ok (.iconst 0, 1) := by decide +kernel
theorem dX12_checks_45 : decode cX12_checks 45 = .ok (.istore_n 2, 1) := by decide +kernel
theorem dX12_checks_46 : decode cX12_checks 46 = .ok (.iload_n 2, 1) := by decide +kernel
theorem dX12_checks_47 : decode cX12_checks 47 = .ok (.ifCond .eq 10, 3) := by decide +kernel
theorem dX12_checks_50 : decode cX12_checks 50 = .ok (.aload_n 0, 1) := by decide +kernel
theorem dX12_checks_51 : decode cX12_checks 51 = .ok (.sipush 786, 3) := by decide +kernel
theorem dX12_checks_54 : decode cX12_checks 54 = .ok (.invokevirtual 221, 3) := by decide +kernel
theorem dX12_checks_57 : decode cX12_checks 57 = .ok (.aload_n 0, 1) := by decide +kernel
theorem dX12_checks_58 : decode cX12_checks 58 = .ok (.sipush 786, 3) := by decide +kernel
theorem dX12_checks_61 : decode cX12_checks 61 = .ok (.sipush 1572, 3) := by decide +kernel
theorem dX12_checks_64 : decode cX12_checks 64 = .ok (.sipush 786, 3) := by decide +kernel
theorem dX12_checks_67 : decode cX12_checks 67 = .ok (.invokevirtual 224, 3) := by decide +kernel
theorem dX12_checks_70 : decode cX12_checks 70 = .ok (.aload_n 0, 1) := by decide +kernel
theorem dX12_checks_71 : decode cX12_checks 71 = .ok (.getfield 10, 3) := by decide +kernel
theorem dX12_checks_74 : decode cX12_checks 74 = .ok (.sipush 1562, 3) := by decide +kernel
theorem dX12_checks_77 : decode cX12_checks 77 = .ok (.iaload, 1) := by decide +kernel
theorem dX12_checks_78 : decode cX12_checks 78 = .ok (.ifCond .ne 17, 3) := by decide +kernel
theorem dX12_checks_81 : decode cX12_checks 81 = .ok (.iload_n 2, 1) := by decide +kernel
theorem dX12_checks_82 : decode cX12_checks 82 = .ok (.ifCond .ne 17, 3) := by decide +kernel
theorem dX12_checks_85 : decode cX12_checks 85 = .ok (.aload_n 0, 1) := by decide +kernel
theorem dX12_checks_86 : decode cX12_checks 86 = .ok (.sipush 1572, 3) := by decide +kernel
theorem dX12_checks_89 : decode cX12_checks 89 = .ok (.invokevirtual 160, 3) := by decide +kernel
theorem dX12_checks_92 : decode cX12_checks 92 = .ok (.ifCond .eq 7, 3) := by decide +kernel
theorem dX12_checks_95 : decode cX12_checks 95 = .ok (.iconst 1, 1) := by decide +kernel
theorem dX12_checks_96 : decode cX12_checks 96 = .ok (.goto 4, 3) := by decide +kernel
theorem dX12_checks_99 : decode cX12_checks 99 = .ok (.iconst 0, 1) := by decide +kernel
theorem dX12_checks_100 : decode cX12_checks 100 = .ok (.istore_n 3, 1) := by decide +kernel
theorem dX12_checks_101 : decode cX12_checks 101 = .ok (.aload_n 0, 1) := by decide +kernel
theorem dX12_checks_102 : decode cX12_checks 102 = .ok (.sipush 786, 3) := by decide +kernel
theorem dX12_checks_105 : decode cX12_checks 105 = .ok (.iconst 0, 1) := by decide +kernel
theorem dX12_checks_106 : decode cX12_checks 106 = .ok (.invokevirtual 227, 3) := by decide +kernel
theorem dX12_checks_109 : decode cX12_checks 109 = .ok (.iconst 1, 1) := by decide +kernel
theorem dX12_checks_110 : decode cX12_checks 110 = .ok (.istore 4, 2) := by decide +kernel
theorem dX12_checks_112 : decode cX12_checks 112 = .ok (.iload_n 3, 1) := by decide +kernel
theorem dX12_checks_113 : decode cX12_checks 113 = .ok (.ifCond .eq 51, 3) := by decide +kernel
theorem dX12_checks_116 : decode cX12_checks 116 = .ok (.aload_n 0, 1) := by decide +kernel
theorem dX12_checks_117 : decode cX12_checks 117 = .ok (.getfield 194, 3) := by decide +kernel
theorem dX12_checks_120 : decode cX12_checks 120 = .ok (.ifCond .ne 44, 3) := by decide +kernel
theorem dX12_checks_123 : decode cX12_checks 123 = .ok (.aload_n 0, 1) := by decide +kernel
theorem dX12_checks_124 : decode cX12_checks 124 = .ok (.sipush 786, 3) := by decide +kernel
theorem dX12_checks_127 : decode cX12_checks 127 = .ok (.invokevirtual 230, 3) := by decide +kernel
theorem dX12_checks_130 : decode cX12_checks 130 = .ok (.istore 5, 2) := by decide +kernel
theorem dX12_checks_132 : decode cX12_checks 132 = .ok (.aload_n 0, 1) := by decide +kernel
theorem dX12_checks_133 : decode cX12_checks 133 = .ok (.sipush 786, 3) := by decide +kernel
theorem dX12_checks_136 : decode cX12_checks 136 = .ok (.iload 4, 2) := by decide +kernel
theorem dX12_checks_138 : decode cX12_checks 138 = .ok (.invokevirtual 227, 3) := by decide +kernel
theorem dX12_checks_141 : decode cX12_checks 141 = .ok (.aload_n 0, 1) := by decide +kernel
theorem dX12_checks_142 : decode cX12_checks 142 = .ok (.getfield 10, 3) := by decide +kernel
theorem dX12_checks_145 : decode cX12_checks 145 = .ok (.sipush 1562, 3) := by decide +kernel
theorem dX12_checks_148 : decode cX12_checks 148 = .ok (.iaload, 1) := by decide +kernel
theorem dX12_checks_149 : decode cX12_checks 149 = .ok (.ifCond .eq 7, 3) := by decide +kernel
theorem dX12_checks_152 : decode cX12_checks 152 = .ok (.iconst 1, 1) := by decide +kernel
theorem dX12_checks_153 : decode cX12_checks 153 = .ok (.goto 4, 3) := by decide +kernel
theorem dX12_checks_156 : decode cX12_checks 156 = .ok (.iconst 0, 1) := by decide +kernel
theorem dX12_checks_157 : decode cX12_checks 157 = .ok (.istore_n 3, 1) := by decide +kernel
theorem dX12_checks_158 : decode cX12_checks 158 = .ok (.iinc 4 1, 3) := by decide +kernel
theorem dX12_checks_161 : decode cX12_checks 161 = .ok (.goto (-49), 3) := by decide +kernel
theorem dX12_checks_164 : decode cX12_checks 164 = .ok (.return_, 1) := by decide +kernel
theorem dX12_isWell_0 : decode cX12_isWell 0 = .ok (.aload_n 0, 1) := by decide +kernel
theorem dX12_isWell_1 : decode cX12_isWell 1 = .ok (.iload_n 1, 1) := by decide +kernel
theorem dX12_isWell_2 : decode cX12_isWell 2 = .ok (.invokevirtual 233, 3) := by decide +kernel
theorem dX12_isWell_5 : decode cX12_isWell 5 = .ok (.aload_n 0, 1) := by decide +kernel
theorem dX12_isWell_6 : decode cX12_isWell 6 = .ok (.getfield 206, 3) := by decide +kernel
theorem dX12_isWell_9 : decode cX12_isWell 9 = .ok (.ifCond .ne 14, 3) := by decide +kernel
theorem dX12_isWell_12 : decode cX12_isWell 12 = .ok (.aload_n 0, 1) := by decide +kernel
theorem dX12_isWell_13 : decode cX12_isWell 13 = .ok (.getfield 194, 3) := by decide +kernel
theorem dX12_isWell_16 : decode cX12_isWell 16 = .ok (.ifCond .ne 7, 3) := by decide +kernel
theorem dX12_isWell_19 : decode cX12_isWell 19 = .ok (.iconst 1, 1) := by decide +kernel
theorem dX12_isWell_20 : decode cX12_isWell 20 = .ok (.goto 4, 3) := by decide +kernel
theorem dX12_isWell_23 : decode cX12_isWell 23 = .ok (.iconst 0, 1) := by decide +kernel
theorem dX12_isWell_24 : decode cX12_isWell 24 = .ok (.ireturn, 1) := by decide +kernel
theorem dX12_isLetter_0 : decode cX12_isLetter 0 = .ok (.iload_n 0, 1) := by decide +kernel
theorem dX12_isLetter_1 : decode cX12_isLetter 1 = .ok (.bipush 97, 2) := by decide +kernel
theorem dX12_isLetter_3 : decode cX12_isLetter 3 = .ok (.if_icmp .lt 13, 3) := by decide +kernel
theorem dX12_isLetter_6 : decode cX12_isLetter 6 = .ok (.iload_n 0, 1) := by decide +kernel
theorem dX12_isLetter_7 : decode cX12_isLetter 7 = .ok (.bipush 122, 2) := by decide +kernel
theorem dX12_isLetter_9 : decode cX12_isLetter 9 = .ok (.if_icmp .gt 7, 3) := by decide +kernel
theorem dX12_isLetter_12 : decode cX12_isLetter 12 = .ok (.iconst 1, 1) := by decide +kernel
theorem dX12_isLetter_13 : decode cX12_isLetter 13 = .ok (.goto 4, 3) := by decide +kernel
theorem dX12_isLetter_16 : decode cX12_isLetter 16 = .ok (.iconst 0, 1) := by decide +kernel
theorem dX12_isLetter_17 : decode cX12_isLetter 17 = .ok (.ireturn, 1) := by decide +kernel
theorem dX12_byteAt_0 : decode cX12_byteAt 0 = .ok (.iload_n 1, 1) := by decide +kernel
theorem dX12_byteAt_1 : decode cX12_byteAt 1 = .ok (.aload_n 0, 1) := by decide +kernel
theorem dX12_byteAt_2 : decode cX12_byteAt 2 = .ok (.getfield 236, 3) := by decide +kernel
theorem dX12_byteAt_5 : decode cX12_byteAt 5 = .ok (.if_icmp .ge 16, 3) := by decide +kernel
theorem dX12_byteAt_8 : decode cX12_byteAt 8 = .ok (.aload_n 0, 1) := by decide +kernel
theorem dX12_byteAt_9 : decode cX12_byteAt 9 = .ok (.getfield 23, 3) := by decide +kernel
theorem dX12_byteAt_12 : decode cX12_byteAt 12 = .ok (.iload_n 1, 1) := by decide +kernel
theorem dX12_byteAt_13 : decode cX12_byteAt 13 = .ok (.iaload, 1) := by decide +kernel
theorem dX12_byteAt_14 : decode cX12_byteAt 14 = .ok (.sipush 255, 3) := by decide +kernel
theorem dX12_byteAt_17 : decode cX12_byteAt 17 = .ok (.iand, 1) := by decide +kernel
theorem dX12_byteAt_18 : decode cX12_byteAt 18 = .ok (.goto 4, 3) := by decide +kernel
theorem dX12_byteAt_21 : decode cX12_byteAt 21 = .ok (.iconst 0, 1) := by decide +kernel
theorem dX12_byteAt_22 : decode cX12_byteAt 22 = .ok (.ireturn, 1) := by decide +kernel
theorem dX12_wordFrom_0 : decode cX12_wordFrom 0 = .ok (.iconst 0, 1) := by decide +kernel
theorem dX12_wordFrom_1 : decode cX12_wordFrom 1 = .ok (.istore_n 3, 1) := by decide +kernel
theorem dX12_wordFrom_2 : decode cX12_wordFrom 2 = .ok (.iload_n 1, 1) := by decide +kernel
theorem dX12_wordFrom_3 : decode cX12_wordFrom 3 = .ok (.istore 4, 2) := by decide +kernel
theorem dX12_wordFrom_5 : decode cX12_wordFrom 5 = .ok (.iconst 1, 1) := by decide +kernel
theorem dX12_wordFrom_6 : decode cX12_wordFrom 6 = .ok (.istore 5, 2) := by decide +kernel
theorem dX12_wordFrom_8 : decode cX12_wordFrom 8 = .ok (.iconst 0, 1) := by decide +kernel
theorem dX12_wordFrom_9 : decode cX12_wordFrom 9 = .ok (.istore 6, 2) := by decide +kernel
theorem dX12_wordFrom_11 : decode cX12_wordFrom 11 = .ok (.iload 6, 2) := by decide +kernel
theorem dX12_wordFrom_13 : decode cX12_wordFrom 13 = .ok (.getstatic 239, 3) := by decide +kernel
theorem dX12_wordFrom_16 : decode cX12_wordFrom 16 = .ok (.arraylength, 1) := by decide +kernel
theorem dX12_wordFrom_17 : decode cX12_wordFrom 17 = .ok (.if_icmp .ge 81, 3) := by decide +kernel
theorem dX12_wordFrom_20 : decode cX12_wordFrom 20 = .ok (.getstatic 239, 3) := by decide +kernel
theorem dX12_wordFrom_23 : decode cX12_wordFrom 23 = .ok (.iload 6, 2) := by decide +kernel
theorem dX12_wordFrom_25 : decode cX12_wordFrom 25 = .ok (.baload, 1) := by decide +kernel
theorem dX12_wordFrom_26 : decode cX12_wordFrom 26 = .ok (.bipush 32, 2) := by decide +kernel
theorem dX12_wordFrom_28 : decode cX12_wordFrom 28 = .ok (.if_icmp .ne 28, 3) := by decide +kernel
theorem dX12_wordFrom_31 : decode cX12_wordFrom 31 = .ok (.iload 5, 2) := by decide +kernel
theorem dX12_wordFrom_33 : decode cX12_wordFrom 33 = .ok (.ifCond .eq 11, 3) := by decide +kernel
theorem dX12_wordFrom_36 : decode cX12_wordFrom 36 = .ok (.iload 4, 2) := by decide +kernel
theorem dX12_wordFrom_38 : decode cX12_wordFrom 38 = .ok (.iload_n 2, 1) := by decide +kernel
theorem dX12_wordFrom_39 : decode cX12_wordFrom 39 = .ok (.if_icmp .ne 5, 3) := by decide +kernel
theorem dX12_wordFrom_42 : decode cX12_wordFrom 42 = .ok (.iload_n 3, 1) := by decide +kernel
theorem dX12_wordFrom_43 : decode cX12_wordFrom 43 = .ok (.ireturn, 1) := by decide +kernel
theorem dX12_wordFrom_44 : decode cX12_wordFrom 44 = .ok (.iinc 3 1, 3) := by decide +kernel
theorem dX12_wordFrom_47 : decode cX12_wordFrom 47 = .ok (.iload_n 1, 1) := by decide +kernel
theorem dX12_wordFrom_48 : decode cX12_wordFrom 48 = .ok (.istore 4, 2) := by decide +kernel
theorem dX12_wordFrom_50 : decode cX12_wordFrom 50 = .ok (.iconst 1, 1) := by decide +kernel
theorem dX12_wordFrom_51 : decode cX12_wordFrom 51 = .ok (.istore 5, 2) := by decide +kernel
theorem dX12_wordFrom_53 : decode cX12_wordFrom 53 = .ok (.goto 39, 3) := by decide +kernel
theorem dX12_wordFrom_56 : decode cX12_wordFrom 56 = .ok (.iload 5, 2) := by decide +kernel
theorem dX12_wordFrom_58 : decode cX12_wordFrom 58 = .ok (.ifCond .eq 28, 3) := by decide +kernel
theorem dX12_wordFrom_61 : decode cX12_wordFrom 61 = .ok (.iload 4, 2) := by decide +kernel
theorem dX12_wordFrom_63 : decode cX12_wordFrom 63 = .ok (.iload_n 2, 1) := by decide +kernel
theorem dX12_wordFrom_64 : decode cX12_wordFrom 64 = .ok (.if_icmp .ge 22, 3) := by decide +kernel
theorem dX12_wordFrom_67 : decode cX12_wordFrom 67 = .ok (.aload_n 0, 1) := by decide +kernel
theorem dX12_wordFrom_68 : decode cX12_wordFrom 68 = .ok (.iload 4, 2) := by decide +kernel
theorem dX12_wordFrom_70 : decode cX12_wordFrom 70 = .ok (.invokevirtual 243, 3) := by decide +kernel
theorem dX12_wordFrom_73 : decode cX12_wordFrom 73 = .ok (.getstatic 239, 3) := by decide +kernel
theorem dX12_wordFrom_76 : decode cX12_wordFrom 76 = .ok (.iload 6, 2) := by decide +kernel
theorem dX12_wordFrom_78 : decode cX12_wordFrom 78 = .ok (.baload, 1) := by decide +kernel
theorem dX12_wordFrom_79 : decode cX12_wordFrom 79 = .ok (.if_icmp .ne 7, 3) := by decide +kernel
theorem dX12_wordFrom_82 : decode cX12_wordFrom 82 = .ok (.iconst 1, 1) := by decide +kernel
theorem dX12_wordFrom_83 : decode cX12_wordFrom 83 = .ok (.goto 4, 3) := by decide +kernel
theorem dX12_wordFrom_86 : decode cX12_wordFrom 86 = .ok (.iconst 0, 1) := by decide +kernel
theorem dX12_wordFrom_87 : decode cX12_wordFrom 87 = .ok (.istore 5, 2) := by decide +kernel
theorem dX12_wordFrom_89 : decode cX12_wordFrom 89 = .ok (.iinc 4 1, 3) := by decide +kernel
theorem dX12_wordFrom_92 : decode cX12_wordFrom 92 = .ok (.iinc 6 1, 3) := by decide +kernel
theorem dX12_wordFrom_95 : decode cX12_wordFrom 95 = .ok (.goto (-84), 3) := by decide +kernel
theorem dX12_wordFrom_98 : decode cX12_wordFrom 98 = .ok (.iconst (-1), 1) := by decide +kernel
theorem dX12_wordFrom_99 : decode cX12_wordFrom 99 = .ok (.ireturn, 1) := by decide +kernel
theorem dX12_go_0 : decode cX12_go 0 = .ok (.aload_n 0, 1) := by decide +kernel
theorem dX12_go_1 : decode cX12_go 1 = .ok (.getfield 246, 3) := by decide +kernel
theorem dX12_go_4 : decode cX12_go 4 = .ok (.aload_n 0, 1) := by decide +kernel
theorem dX12_go_5 : decode cX12_go 5 = .ok (.getfield 236, 3) := by decide +kernel
theorem dX12_go_8 : decode cX12_go 8 = .ok (.if_icmp .ge 42, 3) := by decide +kernel
theorem dX12_go_11 : decode cX12_go 11 = .ok (.aload_n 0, 1) := by decide +kernel
theorem dX12_go_12 : decode cX12_go 12 = .ok (.aload_n 0, 1) := by decide +kernel
theorem dX12_go_13 : decode cX12_go 13 = .ok (.getfield 246, 3) := by decide +kernel
theorem dX12_go_16 : decode cX12_go 16 = .ok (.invokevirtual 243, 3) := by decide +kernel
theorem dX12_go_19 : decode cX12_go 19 = .ok (.bipush 32, 2) := by decide +kernel
theorem dX12_go_21 : decode cX12_go 21 = .ok (.if_icmp .eq 16, 3) := by decide +kernel
theorem dX12_go_24 : decode cX12_go 24 = .ok (.aload_n 0, 1) := by decide +kernel
theorem dX12_go_25 : decode cX12_go 25 = .ok (.aload_n 0, 1) := by decide +kernel
theorem dX12_go_26 : decode cX12_go 26 = .ok (.getfield 246, 3) := by decide +kernel
theorem dX12_go_29 : decode cX12_go 29 = .ok (.invokevirtual 243, 3) := by decide +kernel
theorem dX12_go_32 : decode cX12_go 32 = .ok (.bipush 10, 2) := by decide +kernel
theorem dX12_go_34 : decode cX12_go 34 = .ok (.if_icmp .ne 16, 3) := by decide +kernel
theorem dX12_go_37 : decode cX12_go 37 = .ok (.aload_n 0, 1) := by decide +kernel
theorem dX12_go_38 : decode cX12_go 38 = .ok (.dup, 1) := by decide +kernel
theorem dX12_go_39 : decode cX12_go 39 = .ok (.getfield 246, 3) := by decide +kernel
theorem dX12_go_42 : decode cX12_go 42 = .ok (.iconst 1, 1) := by decide +kernel
theorem dX12_go_43 : decode cX12_go 43 = .ok (.iadd, 1) := by decide +kernel
theorem dX12_go_44 : decode cX12_go 44 = .ok (.putfield 246, 3) := by decide +kernel
theorem dX12_go_47 : decode cX12_go 47 = .ok (.goto (-47), 3) := by decide +kernel
theorem dX12_go_50 : decode cX12_go 50 = .ok (.aload_n 0, 1) := by decide +kernel
theorem dX12_go_51 : decode cX12_go 51 = .ok (.aload_n 0, 1) := by decide +kernel
theorem dX12_go_52 : decode cX12_go 52 = .ok (.getfield 246, 3) := by decide +kernel
theorem dX12_go_55 : decode cX12_go 55 = .ok (.putfield 249, 3) := by decide +kernel
theorem dX12_go_58 : decode cX12_go 58 = .ok (.aload_n 0, 1) := by decide +kernel
theorem dX12_go_59 : decode cX12_go 59 = .ok (.aload_n 0, 1) := by decide +kernel
theorem dX12_go_60 : decode cX12_go 60 = .ok (.getfield 246, 3) := by decide +kernel
theorem dX12_go_63 : decode cX12_go 63 = .ok (.invokevirtual 243, 3) := by decide +kernel
theorem dX12_go_66 : decode cX12_go 66 = .ok (.istore_n 1, 1) := by decide +kernel
theorem dX12_go_67 : decode cX12_go 67 = .ok (.aload_n 0, 1) := by decide +kernel
theorem dX12_go_68 : decode cX12_go 68 = .ok (.iconst (-1), 1) := by decide +kernel
theorem dX12_go_69 : decode cX12_go 69 = .ok (.putfield 252, 3) := by decide +kernel
theorem dX12_go_72 : decode cX12_go 72 = .ok (.aload_n 0, 1) := by decide +kernel
theorem dX12_go_73 : decode cX12_go 73 = .ok (.iconst 0, 1) := by decide +kernel
theorem dX12_go_74 : decode cX12_go 74 = .ok (.putfield 255, 3) := by decide +kernel
theorem dX12_go_77 : decode cX12_go 77 = .ok (.aload_n 0, 1) := by decide +kernel
theorem dX12_go_78 : decode cX12_go 78 = .ok (.getfield 246, 3) := by decide +kernel
theorem dX12_go_81 : decode cX12_go 81 = .ok (.aload_n 0, 1) := by decide +kernel
theorem dX12_go_82 : decode cX12_go 82 = .ok (.getfield 236, 3) := by decide +kernel
theorem dX12_go_85 : decode cX12_go 85 = .ok (.if_icmp .lt 11, 3) := by decide +kernel
theorem dX12_go_88 : decode cX12_go 88 = .ok (.aload_n 0, 1) := by decide +kernel
theorem dX12_go_89 : decode cX12_go 89 = .ok (.iconst 0, 1) := by decide +kernel
theorem dX12_go_90 : decode cX12_go 90 = .ok (.putfield 258, 3) := by decide +kernel
theorem dX12_go_93 : decode cX12_go 93 = .ok (.goto 198, 3) := by decide +kernel
theorem dX12_go_96 : decode cX12_go 96 = .ok (.iload_n 1, 1) := by decide +kernel
theorem dX12_go_97 : decode cX12_go 97 = .ok (.invokestatic 261, 3) := by decide +kernel
theorem dX12_go_100 : decode cX12_go 100 = .ok (.ifCond .eq 54, 3) := by decide +kernel
theorem dX12_go_103 : decode cX12_go 103 = .ok (.aload_n 0, 1) := by decide +kernel
theorem dX12_go_104 : decode cX12_go 104 = .ok (.aload_n 0, 1) := by decide +kernel
theorem dX12_go_105 : decode cX12_go 105 = .ok (.getfield 246, 3) := by decide +kernel
theorem dX12_go_108 : decode cX12_go 108 = .ok (.invokevirtual 243, 3) := by decide +kernel
theorem dX12_go_111 : decode cX12_go 111 = .ok (.invokestatic 261, 3) := by decide +kernel
theorem dX12_go_114 : decode cX12_go 114 = .ok (.ifCond .eq 16, 3) := by decide +kernel
theorem dX12_go_117 : decode cX12_go 117 = .ok (.aload_n 0, 1) := by decide +kernel
theorem dX12_go_118 : decode cX12_go 118 = .ok (.dup, 1) := by decide +kernel
theorem dX12_go_119 : decode cX12_go 119 = .ok (.getfield 246, 3) := by decide +kernel
theorem dX12_go_122 : decode cX12_go 122 = .ok (.iconst 1, 1) := by decide +kernel
theorem dX12_go_123 : decode cX12_go 123 = .ok (.iadd, 1) := by decide +kernel
theorem dX12_go_124 : decode cX12_go 124 = .ok (.putfield 246, 3) := by decide +kernel
theorem dX12_go_127 : decode cX12_go 127 = .ok (.goto (-24), 3) := by decide +kernel
theorem dX12_go_130 : decode cX12_go 130 = .ok (.aload_n 0, 1) := by decide +kernel
theorem dX12_go_131 : decode cX12_go 131 = .ok (.iconst 1, 1) := by decide +kernel
theorem dX12_go_132 : decode cX12_go 132 = .ok (.putfield 258, 3) := by decide +kernel
theorem dX12_go_135 : decode cX12_go 135 = .ok (.aload_n 0, 1) := by decide +kernel
theorem dX12_go_136 : decode cX12_go 136 = .ok (.aload_n 0, 1) := by decide +kernel
theorem dX12_go_137 : decode cX12_go 137 = .ok (.aload_n 0, 1) := by decide +kernel
theorem dX12_go_138 : decode cX12_go 138 = .ok (.getfield 249, 3) := by decide +kernel
theorem dX12_go_141 : decode cX12_go 141 = .ok (.aload_n 0, 1) := by decide +kernel
theorem dX12_go_142 : decode cX12_go 142 = .ok (.getfield 246, 3) := by decide +kernel
theorem dX12_go_145 : decode cX12_go 145 = .ok (.invokevirtual 264, 3) := by decide +kernel
theorem dX12_go_148 : decode cX12_go 148 = .ok (.putfield 252, 3) := by decide +kernel
theorem dX12_go_151 : decode cX12_go 151 = .ok (.goto 140, 3) := by decide +kernel
theorem dX12_go_154 : decode cX12_go 154 = .ok (.iload_n 1, 1) := by decide +kernel
theorem dX12_go_155 : decode cX12_go 155 = .ok (.bipush 48, 2) := by decide +kernel
theorem dX12_go_157 : decode cX12_go 157 = .ok (.if_icmp .lt 98, 3) := by decide +kernel
theorem dX12_go_160 : decode cX12_go 160 = .ok (.iload_n 1, 1) := by decide +kernel
theorem dX12_go_161 : decode cX12_go 161 = .ok (.bipush 57, 2) := by decide +kernel
theorem dX12_go_163 : decode cX12_go 163 = .ok (.if_icmp .gt 92, 3) := by decide +kernel
theorem dX12_go_166 : decode cX12_go 166 = .ok (.aload_n 0, 1) := by decide +kernel
theorem dX12_go_167 : decode cX12_go 167 = .ok (.aload_n 0, 1) := by decide +kernel
theorem dX12_go_168 : decode cX12_go 168 = .ok (.getfield 246, 3) := by decide +kernel
theorem dX12_go_171 : decode cX12_go 171 = .ok (.invokevirtual 243, 3) := by decide +kernel
theorem dX12_go_174 : decode cX12_go 174 = .ok (.bipush 48, 2) := by decide +kernel
theorem dX12_go_176 : decode cX12_go 176 = .ok (.if_icmp .lt 71, 3) := by decide +kernel
theorem dX12_go_179 : decode cX12_go 179 = .ok (.aload_n 0, 1) := by decide +kernel
theorem dX12_go_180 : decode cX12_go 180 = .ok (.aload_n 0, 1) := by decide +kernel
theorem dX12_go_181 : decode cX12_go 181 = .ok (.getfield 246, 3) := by decide +kernel
theorem dX12_go_184 : decode cX12_go 184 = .ok (.invokevirtual 243, 3) := by decide +kernel
theorem dX12_go_187 : decode cX12_go 187 = .ok (.bipush 57, 2) := by decide +kernel
theorem dX12_go_189 : decode cX12_go 189 = .ok (.if_icmp .gt 58, 3) := by decide +kernel
theorem dX12_go_192 : decode cX12_go 192 = .ok (.aload_n 0, 1) := by decide +kernel
theorem dX12_go_193 : decode cX12_go 193 = .ok (.aload_n 0, 1) := by decide +kernel
theorem dX12_go_194 : decode cX12_go 194 = .ok (.getfield 246, 3) := by decide +kernel
theorem dX12_go_197 : decode cX12_go 197 = .ok (.aload_n 0, 1) := by decide +kernel
theorem dX12_go_198 : decode cX12_go 198 = .ok (.getfield 249, 3) := by decide +kernel
theorem dX12_go_201 : decode cX12_go 201 = .ok (.isub, 1) := by decide +kernel
theorem dX12_go_202 : decode cX12_go 202 = .ok (.iconst 3, 1) := by decide +kernel
theorem dX12_go_203 : decode cX12_go 203 = .ok (.if_icmp .ge 25, 3) := by decide +kernel
theorem dX12_go_206 : decode cX12_go 206 = .ok (.bipush 10, 2) := by decide +kernel
theorem dX12_go_208 : decode cX12_go 208 = .ok (.aload_n 0, 1) := by decide +kernel
theorem dX12_go_209 : decode cX12_go 209 = .ok (.getfield 255, 3) := by decide +kernel
theorem dX12_go_212 : decode cX12_go 212 = .ok (.imul, 1) := by decide +kernel
theorem dX12_go_213 : decode cX12_go 213 = .ok (.aload_n 0, 1) := by decide +kernel
theorem dX12_go_214 : decode cX12_go 214 = .ok (.aload_n 0, 1) := by decide +kernel
theorem dX12_go_215 : decode cX12_go 215 = .ok (.getfield 246, 3) := by decide +kernel
theorem dX12_go_218 : decode cX12_go 218 = .ok (.invokevirtual 243, 3) := by decide +kernel
theorem dX12_go_221 : decode cX12_go 221 = .ok (.iadd, 1) := by decide +kernel
theorem dX12_go_222 : decode cX12_go 222 = .ok (.bipush 48, 2) := by decide +kernel
theorem dX12_go_224 : decode cX12_go 224 = .ok (.isub, 1) := by decide +kernel
theorem dX12_go_225 : decode cX12_go 225 = .ok (.goto 6, 3) := by decide +kernel
theorem dX12_go_228 : decode cX12_go 228 = .ok (.sipush 9999, 3) := by decide +kernel
theorem dX12_go_231 : decode cX12_go 231 = .ok (.putfield 255, 3) := by decide +kernel
theorem dX12_go_234 : decode cX12_go 234 = .ok (.aload_n 0, 1) := by decide +kernel
theorem dX12_go_235 : decode cX12_go 235 = .ok (.dup, 1) := by decide +kernel
theorem dX12_go_236 : decode cX12_go 236 = .ok (.getfield 246, 3) := by decide +kernel
theorem dX12_go_239 : decode cX12_go 239 = .ok (.iconst 1, 1) := by decide +kernel
theorem dX12_go_240 : decode cX12_go 240 = .ok (.iadd, 1) := by decide +kernel
theorem dX12_go_241 : decode cX12_go 241 = .ok (.putfield 246, 3) := by decide +kernel
theorem dX12_go_244 : decode cX12_go 244 = .ok (.goto (-78), 3) := by decide +kernel
theorem dX12_go_247 : decode cX12_go 247 = .ok (.aload_n 0, 1) := by decide +kernel
theorem dX12_go_248 : decode cX12_go 248 = .ok (.iconst 2, 1) := by decide +kernel
theorem dX12_go_249 : decode cX12_go 249 = .ok (.putfield 258, 3) := by decide +kernel
theorem dX12_go_252 : decode cX12_go 252 = .ok (.goto 39, 3) := by decide +kernel
theorem dX12_go_255 : decode cX12_go 255 = .ok (.aload_n 0, 1) := by decide +kernel
theorem dX12_go_256 : decode cX12_go 256 = .ok (.dup, 1) := by decide +kernel
theorem dX12_go_257 : decode cX12_go 257 = .ok (.getfield 246, 3) := by decide +kernel
theorem dX12_go_260 : decode cX12_go 260 = .ok (.iconst 1, 1) := by decide +kernel
theorem dX12_go_261 : decode cX12_go 261 = .ok (.iadd, 1) := by decide +kernel
theorem dX12_go_262 : decode cX12_go 262 = .ok (.putfield 246, 3) := by decide +kernel
theorem dX12_go_265 : decode cX12_go 265 = .ok (.aload_n 0, 1) := by decide +kernel
theorem dX12_go_266 : decode cX12_go 266 = .ok (.iload_n 1, 1) := by decide +kernel
theorem dX12_go_267 : decode cX12_go 267 = .ok (.bipush 59, 2) := by decide +kernel
theorem dX12_go_269 : decode cX12_go 269 = .ok (.if_icmp .eq 9, 3) := by decide +kernel
theorem dX12_go_272 : decode cX12_go 272 = .ok (.iload_n 1, 1) := by decide +kernel
theorem dX12_go_273 : decode cX12_go 273 = .ok (.bipush 44, 2) := by decide +kernel
theorem dX12_go_275 : decode cX12_go 275 = .ok (.if_icmp .ne 7, 3) := by decide +kernel
theorem dX12_go_278 : decode cX12_go 278 = .ok (.iconst 3, 1) := by decide +kernel
theorem dX12_go_279 : decode cX12_go 279 = .ok (.goto 4, 3) := by decide +kernel
theorem dX12_go_282 : decode cX12_go 282 = .ok (.iconst 4, 1) := by decide +kernel
theorem dX12_go_283 : decode cX12_go 283 = .ok (.putfield 258, 3) := by decide +kernel
theorem dX12_go_286 : decode cX12_go 286 = .ok (.aload_n 0, 1) := by decide +kernel
theorem dX12_go_287 : decode cX12_go 287 = .ok (.iload_n 1, 1) := by decide +kernel
theorem dX12_go_288 : decode cX12_go 288 = .ok (.putfield 255, 3) := by decide +kernel
theorem dX12_go_291 : decode cX12_go 291 = .ok (.return_, 1) := by decide +kernel
theorem dX12_wants_0 : decode cX12_wants 0 = .ok (.aload_n 0, 1) := by decide +kernel
theorem dX12_wants_1 : decode cX12_wants 1 = .ok (.getfield 267, 3) := by decide +kernel
theorem dX12_wants_4 : decode cX12_wants 4 = .ok (.ifCond .ne 20, 3) := by decide +kernel
theorem dX12_wants_7 : decode cX12_wants 7 = .ok (.iload_n 1, 1) := by decide +kernel
theorem dX12_wants_8 : decode cX12_wants 8 = .ok (.ifCond .ne 16, 3) := by decide +kernel
theorem dX12_wants_11 : decode cX12_wants 11 = .ok (.aload_n 0, 1) := by decide +kernel
theorem dX12_wants_12 : decode cX12_wants 12 = .ok (.iload_n 2, 1) := by decide +kernel
theorem dX12_wants_13 : decode cX12_wants 13 = .ok (.putfield 267, 3) := by decide +kernel
theorem dX12_wants_16 : decode cX12_wants 16 = .ok (.aload_n 0, 1) := by decide +kernel
theorem dX12_wants_17 : decode cX12_wants 17 = .ok (.aload_n 0, 1) := by decide +kernel
theorem dX12_wants_18 : decode cX12_wants 18 = .ok (.getfield 249, 3) := by decide +kernel
theorem dX12_wants_21 : decode cX12_wants 21 = .ok (.putfield 26, 3) := by decide +kernel
theorem dX12_wants_24 : decode cX12_wants 24 = .ok (.aload_n 0, 1) := by decide +kernel
theorem dX12_wants_25 : decode cX12_wants 25 = .ok (.getfield 267, 3) := by decide +kernel
theorem dX12_wants_28 : decode cX12_wants 28 = .ok (.ifCond .ne 7, 3) := by decide +kernel
theorem dX12_wants_31 : decode cX12_wants 31 = .ok (.iconst 1, 1) := by decide +kernel
theorem dX12_wants_32 : decode cX12_wants 32 = .ok (.goto 4, 3) := by decide +kernel
theorem dX12_wants_35 : decode cX12_wants 35 = .ok (.iconst 0, 1) := by decide +kernel
theorem dX12_wants_36 : decode cX12_wants 36 = .ok (.ireturn, 1) := by decide +kernel
theorem dX12_numberHere_0 : decode cX12_numberHere 0 = .ok (.aload_n 0, 1) := by decide +kernel
theorem dX12_numberHere_1 : decode cX12_numberHere 1 = .ok (.aload_n 0, 1) := by decide +kernel
theorem dX12_numberHere_2 : decode cX12_numberHere 2 = .ok (.getfield 258, 3) := by decide +kernel
theorem dX12_numberHere_5 : decode cX12_numberHere 5 = .ok (.iconst 2, 1) := by decide +kernel
theorem dX12_numberHere_6 : decode cX12_numberHere 6 = .ok (.if_icmp .ne 7, 3) := by decide +kernel
theorem dX12_numberHere_9 : decode cX12_numberHere 9 = .ok (.iconst 1, 1) := by decide +kernel
theorem dX12_numberHere_10 : decode cX12_numberHere 10 = .ok (.goto 4, 3) := by decide +kernel
theorem dX12_numberHere_13 : decode cX12_numberHere 13 = .ok (.iconst 0, 1) := by decide +kernel
theorem dX12_numberHere_14 : decode cX12_numberHere 14 = .ok (.iconst 1, 1) := by decide +kernel
theorem dX12_numberHere_15 : decode cX12_numberHere 15 = .ok (.invokevirtual 270, 3) := by decide +kernel
theorem dX12_numberHere_18 : decode cX12_numberHere 18 = .ok (.ifCond .eq 20, 3) := by decide +kernel
theorem dX12_numberHere_21 : decode cX12_numberHere 21 = .ok (.aload_n 0, 1) := by decide +kernel
theorem dX12_numberHere_22 : decode cX12_numberHere 22 = .ok (.aload_n 0, 1) := by decide +kernel
theorem dX12_numberHere_23 : decode cX12_numberHere 23 = .ok (.getfield 255, 3) := by decide +kernel
theorem dX12_numberHere_26 : decode cX12_numberHere 26 = .ok (.iload_n 1, 1) := by decide +kernel
theorem dX12_numberHere_27 : decode cX12_numberHere 27 = .ok (.iload_n 2, 1) := by decide +kernel
theorem dX12_numberHere_28 : decode cX12_numberHere 28 = .ok (.invokestatic 172, 3) := by decide +kernel
theorem dX12_numberHere_31 : decode cX12_numberHere 31 = .ok (.iconst 2, 1) := by decide +kernel
theorem dX12_numberHere_32 : decode cX12_numberHere 32 = .ok (.invokevirtual 270, 3) := by decide +kernel
theorem dX12_numberHere_35 : decode cX12_numberHere 35 = .ok (.ifCond .ne 5, 3) := by decide +kernel
theorem dX12_numberHere_38 : decode cX12_numberHere 38 = .ok (.iload_n 1, 1) := by decide +kernel
theorem dX12_numberHere_39 : decode cX12_numberHere 39 = .ok (.ireturn, 1) := by decide +kernel
theorem dX12_numberHere_40 : decode cX12_numberHere 40 = .ok (.aload_n 0, 1) := by decide +kernel
theorem dX12_numberHere_41 : decode cX12_numberHere 41 = .ok (.getfield 255, 3) := by decide +kernel
theorem dX12_numberHere_44 : decode cX12_numberHere 44 = .ok (.istore_n 3, 1) := by decide +kernel
theorem dX12_numberHere_45 : decode cX12_numberHere 45 = .ok (.aload_n 0, 1) := by decide +kernel
theorem dX12_numberHere_46 : decode cX12_numberHere 46 = .ok (.invokevirtual 274, 3) := by decide +kernel
theorem dX12_numberHere_49 : decode cX12_numberHere 49 = .ok (.iload_n 3, 1) := by decide +kernel
theorem dX12_numberHere_50 : decode cX12_numberHere 50 = .ok (.ireturn, 1) := by decide +kernel
theorem dX12_isSign_0 : decode cX12_isSign 0 = .ok (.aload_n 0, 1) := by decide +kernel
theorem dX12_isSign_1 : decode cX12_isSign 1 = .ok (.getfield 258, 3) := by decide +kernel
theorem dX12_isSign_4 : decode cX12_isSign 4 = .ok (.iconst 3, 1) := by decide +kernel
theorem dX12_isSign_5 : decode cX12_isSign 5 = .ok (.if_icmp .ne 15, 3) := by decide +kernel
theorem dX12_isSign_8 : decode cX12_isSign 8 = .ok (.aload_n 0, 1) := by decide +kernel
theorem dX12_isSign_9 : decode cX12_isSign 9 = .ok (.getfield 255, 3) := by decide +kernel
theorem dX12_isSign_12 : decode cX12_isSign 12 = .ok (.iload_n 1, 1) := by decide +kernel
theorem dX12_isSign_13 : decode cX12_isSign 13 = .ok (.if_icmp .ne 7, 3) := by decide +kernel
theorem dX12_isSign_16 : decode cX12_isSign 16 = .ok (.iconst 1, 1) := by decide +kernel
theorem dX12_isSign_17 : decode cX12_isSign 17 = .ok (.goto 4, 3) := by decide +kernel
theorem dX12_isSign_20 : decode cX12_isSign 20 = .ok (.iconst 0, 1) := by decide +kernel
theorem dX12_isSign_21 : decode cX12_isSign 21 = .ok (.ireturn, 1) := by decide +kernel
theorem dX12_usedHere_0 : decode cX12_usedHere 0 = .ok (.aload_n 0, 1) := by decide +kernel
theorem dX12_usedHere_1 : decode cX12_usedHere 1 = .ok (.aload_n 0, 1) := by decide +kernel
theorem dX12_usedHere_2 : decode cX12_usedHere 2 = .ok (.getfield 258, 3) := by decide +kernel
theorem dX12_usedHere_5 : decode cX12_usedHere 5 = .ok (.iconst 2, 1) := by decide +kernel
theorem dX12_usedHere_6 : decode cX12_usedHere 6 = .ok (.if_icmp .ne 7, 3) := by decide +kernel
theorem dX12_usedHere_9 : decode cX12_usedHere 9 = .ok (.iconst 1, 1) := by decide +kernel
theorem dX12_usedHere_10 : decode cX12_usedHere 10 = .ok (.goto 4, 3) := by decide +kernel
theorem dX12_usedHere_13 : decode cX12_usedHere 13 = .ok (.iconst 0, 1) := by decide +kernel
theorem dX12_usedHere_14 : decode cX12_usedHere 14 = .ok (.iconst 1, 1) := by decide +kernel
theorem dX12_usedHere_15 : decode cX12_usedHere 15 = .ok (.invokevirtual 270, 3) := by decide +kernel
theorem dX12_usedHere_18 : decode cX12_usedHere 18 = .ok (.ifCond .eq 48, 3) := by decide +kernel
theorem dX12_usedHere_21 : decode cX12_usedHere 21 = .ok (.aload_n 0, 1) := by decide +kernel
theorem dX12_usedHere_22 : decode cX12_usedHere 22 = .ok (.aload_n 0, 1) := by decide +kernel
theorem dX12_usedHere_23 : decode cX12_usedHere 23 = .ok (.getfield 255, 3) := by decide +kernel
theorem dX12_usedHere_26 : decode cX12_usedHere 26 = .ok (.iconst 0, 1) := by decide +kernel
theorem dX12_usedHere_27 : decode cX12_usedHere 27 = .ok (.bipush 9, 2) := by decide +kernel
theorem dX12_usedHere_29 : decode cX12_usedHere 29 = .ok (.invokestatic 172, 3) := by decide +kernel
theorem dX12_usedHere_32 : decode cX12_usedHere 32 = .ok (.iconst 2, 1) := by decide +kernel
theorem dX12_usedHere_33 : decode cX12_usedHere 33 = .ok (.invokevirtual 270, 3) := by decide +kernel
theorem dX12_usedHere_36 : decode cX12_usedHere 36 = .ok (.ifCond .eq 30, 3) := by decide +kernel
theorem dX12_usedHere_39 : decode cX12_usedHere 39 = .ok (.aload_n 0, 1) := by decide +kernel
theorem dX12_usedHere_40 : decode cX12_usedHere 40 = .ok (.aload_n 0, 1) := by decide +kernel
theorem dX12_usedHere_41 : decode cX12_usedHere 41 = .ok (.getfield 51, 3) := by decide +kernel
theorem dX12_usedHere_44 : decode cX12_usedHere 44 = .ok (.aload_n 0, 1) := by decide +kernel
theorem dX12_usedHere_45 : decode cX12_usedHere 45 = .ok (.getfield 255, 3) := by decide +kernel
theorem dX12_usedHere_48 : decode cX12_usedHere 48 = .ok (.invokestatic 83, 3) := by decide +kernel
theorem dX12_usedHere_51 : decode cX12_usedHere 51 = .ok (.ifCond .ne 7, 3) := by decide +kernel
theorem dX12_usedHere_54 : decode cX12_usedHere 54 = .ok (.iconst 1, 1) := by decide +kernel
theorem dX12_usedHere_55 : decode cX12_usedHere 55 = .ok (.goto 4, 3) := by decide +kernel
theorem dX12_usedHere_58 : decode cX12_usedHere 58 = .ok (.iconst 0, 1) := by decide +kernel
theorem dX12_usedHere_59 : decode cX12_usedHere 59 = .ok (.iconst 3, 1) := by decide +kernel
theorem dX12_usedHere_60 : decode cX12_usedHere 60 = .ok (.invokevirtual 270, 3) := by decide +kernel
theorem dX12_usedHere_63 : decode cX12_usedHere 63 = .ok (.ifCond .ne 5, 3) := by decide +kernel
theorem dX12_usedHere_66 : decode cX12_usedHere 66 = .ok (.iconst 0, 1) := by decide +kernel
theorem dX12_usedHere_67 : decode cX12_usedHere 67 = .ok (.ireturn, 1) := by decide +kernel
theorem dX12_usedHere_68 : decode cX12_usedHere 68 = .ok (.aload_n 0, 1) := by decide +kernel
theorem dX12_usedHere_69 : decode cX12_usedHere 69 = .ok (.getfield 255, 3) := by decide +kernel
theorem dX12_usedHere_72 : decode cX12_usedHere 72 = .ok (.istore_n 1, 1) := by decide +kernel
theorem dX12_usedHere_73 : decode cX12_usedHere 73 = .ok (.aload_n 0, 1) := by decide +kernel
theorem dX12_usedHere_74 : decode cX12_usedHere 74 = .ok (.getfield 51, 3) := by decide +kernel
theorem dX12_usedHere_77 : decode cX12_usedHere 77 = .ok (.iload_n 1, 1) := by decide +kernel
theorem dX12_usedHere_78 : decode cX12_usedHere 78 = .ok (.invokestatic 76, 3) := by decide +kernel
theorem dX12_usedHere_81 : decode cX12_usedHere 81 = .ok (.iconst 1, 1) := by decide +kernel
theorem dX12_usedHere_82 : decode cX12_usedHere 82 = .ok (.iastore, 1) := by decide +kernel
theorem dX12_usedHere_83 : decode cX12_usedHere 83 = .ok (.aload_n 0, 1) := by decide +kernel
theorem dX12_usedHere_84 : decode cX12_usedHere 84 = .ok (.invokevirtual 274, 3) := by decide +kernel
theorem dX12_usedHere_87 : decode cX12_usedHere 87 = .ok (.iload_n 1, 1) := by decide +kernel
theorem dX12_usedHere_88 : decode cX12_usedHere 88 = .ok (.ireturn, 1) := by decide +kernel
theorem dX12_chain1_0 : decode cX12_chain1 0 = .ok (.aload_n 0, 1) := by decide +kernel
theorem dX12_chain1_1 : decode cX12_chain1 1 = .ok (.invokevirtual 274, 3) := by decide +kernel
theorem dX12_chain1_4 : decode cX12_chain1 4 = .ok (.aload_n 0, 1) := by decide +kernel
theorem dX12_chain1_5 : decode cX12_chain1 5 = .ok (.aload_n 0, 1) := by decide +kernel
theorem dX12_chain1_6 : decode cX12_chain1 6 = .ok (.getfield 258, 3) := by decide +kernel
theorem dX12_chain1_9 : decode cX12_chain1 9 = .ok (.iconst 2, 1) := by decide +kernel
theorem dX12_chain1_10 : decode cX12_chain1 10 = .ok (.if_icmp .ne 7, 3) := by decide +kernel
theorem dX12_chain1_13 : decode cX12_chain1 13 = .ok (.iconst 1, 1) := by decide +kernel
theorem dX12_chain1_14 : decode cX12_chain1 14 = .ok (.goto 4, 3) := by decide +kernel
theorem dX12_chain1_17 : decode cX12_chain1 17 = .ok (.iconst 0, 1) := by decide +kernel
theorem dX12_chain1_18 : decode cX12_chain1 18 = .ok (.iconst 1, 1) := by decide +kernel
theorem dX12_chain1_19 : decode cX12_chain1 19 = .ok (.invokevirtual 270, 3) := by decide +kernel
theorem dX12_chain1_22 : decode cX12_chain1 22 = .ok (.ifCond .eq 47, 3) := by decide +kernel
theorem dX12_chain1_25 : decode cX12_chain1 25 = .ok (.aload_n 0, 1) := by decide +kernel
theorem dX12_chain1_26 : decode cX12_chain1 26 = .ok (.aload_n 0, 1) := by decide +kernel
theorem dX12_chain1_27 : decode cX12_chain1 27 = .ok (.getfield 255, 3) := by decide +kernel
theorem dX12_chain1_30 : decode cX12_chain1 30 = .ok (.iconst 0, 1) := by decide +kernel
theorem dX12_chain1_31 : decode cX12_chain1 31 = .ok (.iconst 3, 1) := by decide +kernel
theorem dX12_chain1_32 : decode cX12_chain1 32 = .ok (.invokestatic 172, 3) := by decide +kernel
theorem dX12_chain1_35 : decode cX12_chain1 35 = .ok (.iconst 2, 1) := by decide +kernel
theorem dX12_chain1_36 : decode cX12_chain1 36 = .ok (.invokevirtual 270, 3) := by decide +kernel
theorem dX12_chain1_39 : decode cX12_chain1 39 = .ok (.ifCond .eq 30, 3) := by decide +kernel
theorem dX12_chain1_42 : decode cX12_chain1 42 = .ok (.aload_n 0, 1) := by decide +kernel
theorem dX12_chain1_43 : decode cX12_chain1 43 = .ok (.aload_n 0, 1) := by decide +kernel
theorem dX12_chain1_44 : decode cX12_chain1 44 = .ok (.getfield 277, 3) := by decide +kernel
theorem dX12_chain1_47 : decode cX12_chain1 47 = .ok (.aload_n 0, 1) := by decide +kernel
theorem dX12_chain1_48 : decode cX12_chain1 48 = .ok (.getfield 255, 3) := by decide +kernel
theorem dX12_chain1_51 : decode cX12_chain1 51 = .ok (.ishr, 1) := by decide +kernel
theorem dX12_chain1_52 : decode cX12_chain1 52 = .ok (.iconst 1, 1) := by decide +kernel
theorem dX12_chain1_53 : decode cX12_chain1 53 = .ok (.iand, 1) := by decide +kernel
theorem dX12_chain1_54 : decode cX12_chain1 54 = .ok (.ifCond .ne 7, 3) := by decide +kernel
theorem dX12_chain1_57 : decode cX12_chain1 57 = .ok (.iconst 1, 1) := by decide +kernel
