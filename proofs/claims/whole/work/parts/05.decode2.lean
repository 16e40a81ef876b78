theorem dX6_goOn_54 : decode cX6_goOn 54 = .ok (.getfield 32, 3) := by decide +kernel
theorem dX6_goOn_57 : decode cX6_goOn 57 = .ok (.if_icmp .ge 18, 3) := by decide +kernel
theorem dX6_goOn_60 : decode cX6_goOn 60 = .ok (.aload_n 0, 1) := by decide +kernel
theorem dX6_goOn_61 : decode cX6_goOn 61 = .ok (.getfield 29, 3) := by decide +kernel
theorem dX6_goOn_64 : decode cX6_goOn 64 = .ok (.aload_n 0, 1) := by decide +kernel
theorem dX6_goOn_65 : decode cX6_goOn 65 = .ok (.getfield 36, 3) := by decide +kernel
theorem dX6_goOn_68 : decode cX6_goOn 68 = .ok (.iaload, 1) := by decide +kernel
theorem dX6_goOn_69 : decode cX6_goOn 69 = .ok (.invokestatic 96, 3) := by decide +kernel
theorem dX6_goOn_72 : decode cX6_goOn 72 = .ok (.goto 4, 3) := by decide +kernel
theorem dX6_goOn_75 : decode cX6_goOn 75 = .ok (.iconst 0, 1) := by decide +kernel
theorem dX6_goOn_76 : decode cX6_goOn 76 = .ok (.putfield 39, 3) := by decide +kernel
theorem dX6_goOn_79 : decode cX6_goOn 79 = .ok (.aload_n 0, 1) := by decide +kernel
theorem dX6_goOn_80 : decode cX6_goOn 80 = .ok (.getfield 39, 3) := by decide +kernel
theorem dX6_goOn_83 : decode cX6_goOn 83 = .ok (.iconst 1, 1) := by decide +kernel
theorem dX6_goOn_84 : decode cX6_goOn 84 = .ok (.if_icmp .eq 11, 3) := by decide +kernel
theorem dX6_goOn_87 : decode cX6_goOn 87 = .ok (.aload_n 0, 1) := by decide +kernel
theorem dX6_goOn_88 : decode cX6_goOn 88 = .ok (.getfield 39, 3) := by decide +kernel
theorem dX6_goOn_91 : decode cX6_goOn 91 = .ok (.iconst 2, 1) := by decide +kernel
theorem dX6_goOn_92 : decode cX6_goOn 92 = .ok (.if_icmp .ne 7, 3) := by decide +kernel
theorem dX6_goOn_95 : decode cX6_goOn 95 = .ok (.iconst 1, 1) := by decide +kernel
theorem dX6_goOn_96 : decode cX6_goOn 96 = .ok (.goto 4, 3) := by decide +kernel
theorem dX6_goOn_99 : decode cX6_goOn 99 = .ok (.iconst 0, 1) := by decide +kernel
theorem dX6_goOn_100 : decode cX6_goOn 100 = .ok (.istore_n 1, 1) := by decide +kernel
theorem dX6_goOn_101 : decode cX6_goOn 101 = .ok (.aload_n 0, 1) := by decide +kernel
theorem dX6_goOn_102 : decode cX6_goOn 102 = .ok (.getfield 36, 3) := by decide +kernel
theorem dX6_goOn_105 : decode cX6_goOn 105 = .ok (.aload_n 0, 1) := by decide +kernel
theorem dX6_goOn_106 : decode cX6_goOn 106 = .ok (.getfield 32, 3) := by decide +kernel
theorem dX6_goOn_109 : decode cX6_goOn 109 = .ok (.if_icmp .ge 50, 3) := by decide +kernel
theorem dX6_goOn_112 : decode cX6_goOn 112 = .ok (.aload_n 0, 1) := by decide +kernel
theorem dX6_goOn_113 : decode cX6_goOn 113 = .ok (.getfield 36, 3) := by decide +kernel
theorem dX6_goOn_116 : decode cX6_goOn 116 = .ok (.aload_n 0, 1) := by decide +kernel
theorem dX6_goOn_117 : decode cX6_goOn 117 = .ok (.getfield 42, 3) := by decide +kernel
theorem dX6_goOn_120 : decode cX6_goOn 120 = .ok (.if_icmp .eq 26, 3) := by decide +kernel
theorem dX6_goOn_123 : decode cX6_goOn 123 = .ok (.iload_n 1, 1) := by decide +kernel
theorem dX6_goOn_124 : decode cX6_goOn 124 = .ok (.ifCond .eq 35, 3) := by decide +kernel
theorem dX6_goOn_127 : decode cX6_goOn 127 = .ok (.aload_n 0, 1) := by decide +kernel
theorem dX6_goOn_128 : decode cX6_goOn 128 = .ok (.getfield 29, 3) := by decide +kernel
theorem dX6_goOn_131 : decode cX6_goOn 131 = .ok (.aload_n 0, 1) := by decide +kernel
theorem dX6_goOn_132 : decode cX6_goOn 132 = .ok (.getfield 36, 3) := by decide +kernel
theorem dX6_goOn_135 : decode cX6_goOn 135 = .ok (.iaload, 1) := by decide +kernel
theorem dX6_goOn_136 : decode cX6_goOn 136 = .ok (.invokestatic 96, 3) := by decide +kernel
theorem dX6_goOn_139 : decode cX6_goOn 139 = .ok (.aload_n 0, 1) := by decide +kernel
theorem dX6_goOn_140 : decode cX6_goOn 140 = .ok (.getfield 39, 3) := by decide +kernel
theorem dX6_goOn_143 : decode cX6_goOn 143 = .ok (.if_icmp .ne 16, 3) := by decide +kernel
theorem dX6_goOn_146 : decode cX6_goOn 146 = .ok (.aload_n 0, 1) := by decide +kernel
theorem dX6_goOn_147 : decode cX6_goOn 147 = .ok (.dup, 1) := by decide +kernel
theorem dX6_goOn_148 : decode cX6_goOn 148 = .ok (.getfield 36, 3) := by decide +kernel
theorem dX6_goOn_151 : decode cX6_goOn 151 = .ok (.iconst 1, 1) := by decide +kernel
theorem dX6_goOn_152 : decode cX6_goOn 152 = .ok (.iadd, 1) := by decide +kernel
theorem dX6_goOn_153 : decode cX6_goOn 153 = .ok (.putfield 36, 3) := by decide +kernel
theorem dX6_goOn_156 : decode cX6_goOn 156 = .ok (.goto (-55), 3) := by decide +kernel
theorem dX6_goOn_159 : decode cX6_goOn 159 = .ok (.return_, 1) := by decide +kernel
theorem dX6_kindOf_0 : decode cX6_kindOf 0 = .ok (.iload_n 0, 1) := by decide +kernel
theorem dX6_kindOf_1 : decode cX6_kindOf 1 = .ok (.bipush 97, 2) := by decide +kernel
theorem dX6_kindOf_3 : decode cX6_kindOf 3 = .ok (.if_icmp .lt 11, 3) := by decide +kernel
theorem dX6_kindOf_6 : decode cX6_kindOf 6 = .ok (.iload_n 0, 1) := by decide +kernel
theorem dX6_kindOf_7 : decode cX6_kindOf 7 = .ok (.bipush 122, 2) := by decide +kernel
theorem dX6_kindOf_9 : decode cX6_kindOf 9 = .ok (.if_icmp .gt 5, 3) := by decide +kernel
theorem dX6_kindOf_12 : decode cX6_kindOf 12 = .ok (.iconst 1, 1) := by decide +kernel
theorem dX6_kindOf_13 : decode cX6_kindOf 13 = .ok (.ireturn, 1) := by decide +kernel
theorem dX6_kindOf_14 : decode cX6_kindOf 14 = .ok (.iload_n 0, 1) := by decide +kernel
theorem dX6_kindOf_15 : decode cX6_kindOf 15 = .ok (.bipush 48, 2) := by decide +kernel
theorem dX6_kindOf_17 : decode cX6_kindOf 17 = .ok (.if_icmp .lt 11, 3) := by decide +kernel
theorem dX6_kindOf_20 : decode cX6_kindOf 20 = .ok (.iload_n 0, 1) := by decide +kernel
theorem dX6_kindOf_21 : decode cX6_kindOf 21 = .ok (.bipush 57, 2) := by decide +kernel
theorem dX6_kindOf_23 : decode cX6_kindOf 23 = .ok (.if_icmp .gt 5, 3) := by decide +kernel
theorem dX6_kindOf_26 : decode cX6_kindOf 26 = .ok (.iconst 2, 1) := by decide +kernel
theorem dX6_kindOf_27 : decode cX6_kindOf 27 = .ok (.ireturn, 1) := by decide +kernel
theorem dX6_kindOf_28 : decode cX6_kindOf 28 = .ok (.iload_n 0, 1) := by decide +kernel
theorem dX6_kindOf_29 : decode cX6_kindOf 29 = .ok (.bipush 32, 2) := by decide +kernel
theorem dX6_kindOf_31 : decode cX6_kindOf 31 = .ok (.if_icmp .eq 9, 3) := by decide +kernel
theorem dX6_kindOf_34 : decode cX6_kindOf 34 = .ok (.iload_n 0, 1) := by decide +kernel
theorem dX6_kindOf_35 : decode cX6_kindOf 35 = .ok (.bipush 10, 2) := by decide +kernel
theorem dX6_kindOf_37 : decode cX6_kindOf 37 = .ok (.if_icmp .ne 7, 3) := by decide +kernel
theorem dX6_kindOf_40 : decode cX6_kindOf 40 = .ok (.iconst 4, 1) := by decide +kernel
theorem dX6_kindOf_41 : decode cX6_kindOf 41 = .ok (.goto 4, 3) := by decide +kernel
theorem dX6_kindOf_44 : decode cX6_kindOf 44 = .ok (.iconst 3, 1) := by decide +kernel
theorem dX6_kindOf_45 : decode cX6_kindOf 45 = .ok (.ireturn, 1) := by decide +kernel
theorem dX6_isSign_0 : decode cX6_isSign 0 = .ok (.aload_n 0, 1) := by decide +kernel
theorem dX6_isSign_1 : decode cX6_isSign 1 = .ok (.getfield 39, 3) := by decide +kernel
theorem dX6_isSign_4 : decode cX6_isSign 4 = .ok (.iconst 3, 1) := by decide +kernel
theorem dX6_isSign_5 : decode cX6_isSign 5 = .ok (.if_icmp .ne 20, 3) := by decide +kernel
theorem dX6_isSign_8 : decode cX6_isSign 8 = .ok (.aload_n 0, 1) := by decide +kernel
theorem dX6_isSign_9 : decode cX6_isSign 9 = .ok (.getfield 29, 3) := by decide +kernel
theorem dX6_isSign_12 : decode cX6_isSign 12 = .ok (.aload_n 0, 1) := by decide +kernel
theorem dX6_isSign_13 : decode cX6_isSign 13 = .ok (.getfield 42, 3) := by decide +kernel
theorem dX6_isSign_16 : decode cX6_isSign 16 = .ok (.iaload, 1) := by decide +kernel
theorem dX6_isSign_17 : decode cX6_isSign 17 = .ok (.iload_n 1, 1) := by decide +kernel
theorem dX6_isSign_18 : decode cX6_isSign 18 = .ok (.if_icmp .ne 7, 3) := by decide +kernel
theorem dX6_isSign_21 : decode cX6_isSign 21 = .ok (.iconst 1, 1) := by decide +kernel
theorem dX6_isSign_22 : decode cX6_isSign 22 = .ok (.goto 4, 3) := by decide +kernel
theorem dX6_isSign_25 : decode cX6_isSign 25 = .ok (.iconst 0, 1) := by decide +kernel
theorem dX6_isSign_26 : decode cX6_isSign 26 = .ok (.ireturn, 1) := by decide +kernel
set_option maxRecDepth 20000 in
theorem ggX6_isLetters_J0_length_8abf5 : GoodIn wsX6_isLetters wsJ0_length_8abf5 := goodIn_r _ [9, 10, 11, 12, 13, 8, 14, 15, 16] (by decide +kernel) (by decide +kernel)
set_option maxRecDepth 20000 in
theorem gX6_isLetters_J0_length_8abf5 : GoodIn wsX6_isLetters (wsV RX6 100 RJ0 yJ0_length_8abf5 wsJ0_length_8abf5) := goodIn_app (goodIn_of _ (by decide +kernel)) ggX6_isLetters_J0_length_8abf5
set_option maxRecDepth 20000 in
theorem ggX6_isLetters_J0_charAt_5068e : GoodIn wsX6_isLetters wsJ0_charAt_5068e := goodIn_r _ [20, 10, 21, 22, 23, 8, 24, 15, 16, 25, 26, 27, 28, 29, 30, 31, 32, 33, 34, 35, 36, 37, 38, 39, 40, 41, 42, 43, 44, 45, 46, 47, 48, 49, 50, 51, 52, 53] (by decide +kernel) (by decide +kernel)
set_option maxRecDepth 20000 in
theorem gX6_isLetters_J0_charAt_5068e : GoodIn wsX6_isLetters (wsV RX6 104 RJ0 yJ0_charAt_5068e wsJ0_charAt_5068e) := goodIn_app (goodIn_of _ (by decide +kernel)) ggX6_isLetters_J0_charAt_5068e
theorem dX6_isLetters_0 : decode cX6_isLetters 0 = .ok (.aload_n 0, 1) := by decide +kernel
theorem dX6_isLetters_1 : decode cX6_isLetters 1 = .ok (.getfield 39, 3) := by decide +kernel
theorem dX6_isLetters_4 : decode cX6_isLetters 4 = .ok (.iconst 1, 1) := by decide +kernel
theorem dX6_isLetters_5 : decode cX6_isLetters 5 = .ok (.if_icmp .ne 19, 3) := by decide +kernel
theorem dX6_isLetters_8 : decode cX6_isLetters 8 = .ok (.aload_n 0, 1) := by decide +kernel
theorem dX6_isLetters_9 : decode cX6_isLetters 9 = .ok (.getfield 36, 3) := by decide +kernel
theorem dX6_isLetters_12 : decode cX6_isLetters 12 = .ok (.aload_n 0, 1) := by decide +kernel
theorem dX6_isLetters_13 : decode cX6_isLetters 13 = .ok (.getfield 42, 3) := by decide +kernel
theorem dX6_isLetters_16 : decode cX6_isLetters 16 = .ok (.isub, 1) := by decide +kernel
theorem dX6_isLetters_17 : decode cX6_isLetters 17 = .ok (.aload_n 1, 1) := by decide +kernel
theorem dX6_isLetters_18 : decode cX6_isLetters 18 = .ok (.invokevirtual 100, 3) := by decide +kernel
theorem dX6_isLetters_21 : decode cX6_isLetters 21 = .ok (.if_icmp .eq 5, 3) := by decide +kernel
theorem dX6_isLetters_24 : decode cX6_isLetters 24 = .ok (.iconst 0, 1) := by decide +kernel
theorem dX6_isLetters_25 : decode cX6_isLetters 25 = .ok (.ireturn, 1) := by decide +kernel
theorem dX6_isLetters_26 : decode cX6_isLetters 26 = .ok (.iconst 0, 1) := by decide +kernel
theorem dX6_isLetters_27 : decode cX6_isLetters 27 = .ok (.istore_n 2, 1) := by decide +kernel
theorem dX6_isLetters_28 : decode cX6_isLetters 28 = .ok (.iload_n 2, 1) := by decide +kernel
theorem dX6_isLetters_29 : decode cX6_isLetters 29 = .ok (.aload_n 1, 1) := by decide +kernel
theorem dX6_isLetters_30 : decode cX6_isLetters 30 = .ok (.invokevirtual 100, 3) := by decide +kernel
theorem dX6_isLetters_33 : decode cX6_isLetters 33 = .ok (.if_icmp .ge 30, 3) := by decide +kernel
theorem dX6_isLetters_36 : decode cX6_isLetters 36 = .ok (.aload_n 0, 1) := by decide +kernel
theorem dX6_isLetters_37 : decode cX6_isLetters 37 = .ok (.getfield 29, 3) := by decide +kernel
theorem dX6_isLetters_40 : decode cX6_isLetters 40 = .ok (.aload_n 0, 1) := by decide +kernel
theorem dX6_isLetters_41 : decode cX6_isLetters 41 = .ok (.getfield 42, 3) := by decide +kernel
theorem dX6_isLetters_44 : decode cX6_isLetters 44 = .ok (.iload_n 2, 1) := by decide +kernel
theorem dX6_isLetters_45 : decode cX6_isLetters 45 = .ok (.iadd, 1) := by decide +kernel
theorem dX6_isLetters_46 : decode cX6_isLetters 46 = .ok (.iaload, 1) := by decide +kernel
theorem dX6_isLetters_47 : decode cX6_isLetters 47 = .ok (.aload_n 1, 1) := by decide +kernel
theorem dX6_isLetters_48 : decode cX6_isLetters 48 = .ok (.iload_n 2, 1) := by decide +kernel
theorem dX6_isLetters_49 : decode cX6_isLetters 49 = .ok (.invokevirtual 104, 3) := by decide +kernel
theorem dX6_isLetters_52 : decode cX6_isLetters 52 = .ok (.if_icmp .eq 5, 3) := by decide +kernel
theorem dX6_isLetters_55 : decode cX6_isLetters 55 = .ok (.iconst 0, 1) := by decide +kernel
theorem dX6_isLetters_56 : decode cX6_isLetters 56 = .ok (.ireturn, 1) := by decide +kernel
theorem dX6_isLetters_57 : decode cX6_isLetters 57 = .ok (.iinc 2 1, 3) := by decide +kernel
theorem dX6_isLetters_60 : decode cX6_isLetters 60 = .ok (.goto (-32), 3) := by decide +kernel
theorem dX6_isLetters_63 : decode cX6_isLetters 63 = .ok (.iconst 1, 1) := by decide +kernel
theorem dX6_isLetters_64 : decode cX6_isLetters 64 = .ok (.ireturn, 1) := by decide +kernel
theorem dX6_judgeNumber_0 : decode cX6_judgeNumber 0 = .ok (.aload_n 0, 1) := by decide +kernel
theorem dX6_judgeNumber_1 : decode cX6_judgeNumber 1 = .ok (.getfield 39, 3) := by decide +kernel
theorem dX6_judgeNumber_4 : decode cX6_judgeNumber 4 = .ok (.iconst 2, 1) := by decide +kernel
theorem dX6_judgeNumber_5 : decode cX6_judgeNumber 5 = .ok (.if_icmp .eq 5, 3) := by decide +kernel
theorem dX6_judgeNumber_8 : decode cX6_judgeNumber 8 = .ok (.iconst 1, 1) := by decide +kernel
theorem dX6_judgeNumber_9 : decode cX6_judgeNumber 9 = .ok (.ireturn, 1) := by decide +kernel
theorem dX6_judgeNumber_10 : decode cX6_judgeNumber 10 = .ok (.aload_n 0, 1) := by decide +kernel
theorem dX6_judgeNumber_11 : decode cX6_judgeNumber 11 = .ok (.getfield 36, 3) := by decide +kernel
theorem dX6_judgeNumber_14 : decode cX6_judgeNumber 14 = .ok (.aload_n 0, 1) := by decide +kernel
theorem dX6_judgeNumber_15 : decode cX6_judgeNumber 15 = .ok (.getfield 42, 3) := by decide +kernel
theorem dX6_judgeNumber_18 : decode cX6_judgeNumber 18 = .ok (.isub, 1) := by decide +kernel
theorem dX6_judgeNumber_19 : decode cX6_judgeNumber 19 = .ok (.iconst 3, 1) := by decide +kernel
theorem dX6_judgeNumber_20 : decode cX6_judgeNumber 20 = .ok (.if_icmp .le 5, 3) := by decide +kernel
theorem dX6_judgeNumber_23 : decode cX6_judgeNumber 23 = .ok (.iconst 2, 1) := by decide +kernel
theorem dX6_judgeNumber_24 : decode cX6_judgeNumber 24 = .ok (.ireturn, 1) := by decide +kernel
theorem dX6_judgeNumber_25 : decode cX6_judgeNumber 25 = .ok (.aload_n 0, 1) := by decide +kernel
theorem dX6_judgeNumber_26 : decode cX6_judgeNumber 26 = .ok (.iconst 0, 1) := by decide +kernel
theorem dX6_judgeNumber_27 : decode cX6_judgeNumber 27 = .ok (.putfield 45, 3) := by decide +kernel
theorem dX6_judgeNumber_30 : decode cX6_judgeNumber 30 = .ok (.aload_n 0, 1) := by decide +kernel
theorem dX6_judgeNumber_31 : decode cX6_judgeNumber 31 = .ok (.getfield 42, 3) := by decide +kernel
theorem dX6_judgeNumber_34 : decode cX6_judgeNumber 34 = .ok (.istore_n 3, 1) := by decide +kernel
theorem dX6_judgeNumber_35 : decode cX6_judgeNumber 35 = .ok (.iload_n 3, 1) := by decide +kernel
theorem dX6_judgeNumber_36 : decode cX6_judgeNumber 36 = .ok (.aload_n 0, 1) := by decide +kernel
theorem dX6_judgeNumber_37 : decode cX6_judgeNumber 37 = .ok (.getfield 36, 3) := by decide +kernel
theorem dX6_judgeNumber_40 : decode cX6_judgeNumber 40 = .ok (.if_icmp .ge 30, 3) := by decide +kernel
theorem dX6_judgeNumber_43 : decode cX6_judgeNumber 43 = .ok (.aload_n 0, 1) := by decide +kernel
theorem dX6_judgeNumber_44 : decode cX6_judgeNumber 44 = .ok (.aload_n 0, 1) := by decide +kernel
theorem dX6_judgeNumber_45 : decode cX6_judgeNumber 45 = .ok (.getfield 45, 3) := by decide +kernel
theorem dX6_judgeNumber_48 : decode cX6_judgeNumber 48 = .ok (.bipush 10, 2) := by decide +kernel
theorem dX6_judgeNumber_50 : decode cX6_judgeNumber 50 = .ok (.imul, 1) := by decide +kernel
theorem dX6_judgeNumber_51 : decode cX6_judgeNumber 51 = .ok (.aload_n 0, 1) := by decide +kernel
theorem dX6_judgeNumber_52 : decode cX6_judgeNumber 52 = .ok (.getfield 29, 3) := by decide +kernel
theorem dX6_judgeNumber_55 : decode cX6_judgeNumber 55 = .ok (.iload_n 3, 1) := by decide +kernel
theorem dX6_judgeNumber_56 : decode cX6_judgeNumber 56 = .ok (.iaload, 1) := by decide +kernel
theorem dX6_judgeNumber_57 : decode cX6_judgeNumber 57 = .ok (.iadd, 1) := by decide +kernel
theorem dX6_judgeNumber_58 : decode cX6_judgeNumber 58 = .ok (.bipush 48, 2) := by decide +kernel
theorem dX6_judgeNumber_60 : decode cX6_judgeNumber 60 = .ok (.isub, 1) := by decide +kernel
theorem dX6_judgeNumber_61 : decode cX6_judgeNumber 61 = .ok (.putfield 45, 3) := by decide +kernel
theorem dX6_judgeNumber_64 : decode cX6_judgeNumber 64 = .ok (.iinc 3 1, 3) := by decide +kernel
theorem dX6_judgeNumber_67 : decode cX6_judgeNumber 67 = .ok (.goto (-32), 3) := by decide +kernel
theorem dX6_judgeNumber_70 : decode cX6_judgeNumber 70 = .ok (.aload_n 0, 1) := by decide +kernel
theorem dX6_judgeNumber_71 : decode cX6_judgeNumber 71 = .ok (.getfield 45, 3) := by decide +kernel
theorem dX6_judgeNumber_74 : decode cX6_judgeNumber 74 = .ok (.iload_n 1, 1) := by decide +kernel
theorem dX6_judgeNumber_75 : decode cX6_judgeNumber 75 = .ok (.if_icmp .lt 11, 3) := by decide +kernel
theorem dX6_judgeNumber_78 : decode cX6_judgeNumber 78 = .ok (.aload_n 0, 1) := by decide +kernel
theorem dX6_judgeNumber_79 : decode cX6_judgeNumber 79 = .ok (.getfield 45, 3) := by decide +kernel
theorem dX6_judgeNumber_82 : decode cX6_judgeNumber 82 = .ok (.iload_n 2, 1) := by decide +kernel
theorem dX6_judgeNumber_83 : decode cX6_judgeNumber 83 = .ok (.if_icmp .le 7, 3) := by decide +kernel
theorem dX6_judgeNumber_86 : decode cX6_judgeNumber 86 = .ok (.iconst 2, 1) := by decide +kernel
theorem dX6_judgeNumber_87 : decode cX6_judgeNumber 87 = .ok (.goto 4, 3) := by decide +kernel
theorem dX6_judgeNumber_90 : decode cX6_judgeNumber 90 = .ok (.iconst 0, 1) := by decide +kernel
theorem dX6_judgeNumber_91 : decode cX6_judgeNumber 91 = .ok (.ireturn, 1) := by decide +kernel
set_option maxRecDepth 20000 in
theorem ggX6_readSemicolon_X6_goOn : GoodIn wsX6_readSemicolon wsX6_goOn := goodIn_r _ [5, 6, 7, 8, 9, 10, 11, 12, 4, 13, 18, 19, 20, 21, 22, 23, 24, 25, 26, 27, 28] (by decide +kernel) (by decide +kernel)
set_option maxRecDepth 20000 in
theorem gX6_readSemicolon_X6_goOn : GoodIn wsX6_readSemicolon (wsV RX6 67 RX6 yX6_goOn wsX6_goOn) := goodIn_app (goodIn_of _ (by decide +kernel)) ggX6_readSemicolon_X6_goOn
set_option maxRecDepth 20000 in
theorem ggX6_readSemicolon_X6_isSign : GoodIn wsX6_readSemicolon wsX6_isSign := goodIn_r _ [17, 10, 8, 9, 18, 19, 20, 21, 22, 23, 24, 25, 26, 27, 28] (by decide +kernel) (by decide +kernel)
set_option maxRecDepth 20000 in
theorem gX6_readSemicolon_X6_isSign : GoodIn wsX6_readSemicolon (wsV RX6 108 RX6 yX6_isSign wsX6_isSign) := goodIn_app (goodIn_of _ (by decide +kernel)) ggX6_readSemicolon_X6_isSign
theorem dX6_readSemicolon_0 : decode cX6_readSemicolon 0 = .ok (.aload_n 0, 1) := by decide +kernel
theorem dX6_readSemicolon_1 : decode cX6_readSemicolon 1 = .ok (.invokevirtual 67, 3) := by decide +kernel
theorem dX6_readSemicolon_4 : decode cX6_readSemicolon 4 = .ok (.aload_n 0, 1) := by decide +kernel
theorem dX6_readSemicolon_5 : decode cX6_readSemicolon 5 = .ok (.bipush 59, 2) := by decide +kernel
theorem dX6_readSemicolon_7 : decode cX6_readSemicolon 7 = .ok (.invokevirtual 108, 3) := by decide +kernel
theorem dX6_readSemicolon_10 : decode cX6_readSemicolon 10 = .ok (.ifCond .eq 7, 3) := by decide +kernel
theorem dX6_readSemicolon_13 : decode cX6_readSemicolon 13 = .ok (.iconst 0, 1) := by decide +kernel
theorem dX6_readSemicolon_14 : decode cX6_readSemicolon 14 = .ok (.goto 4, 3) := by decide +kernel
theorem dX6_readSemicolon_17 : decode cX6_readSemicolon 17 = .ok (.iconst 1, 1) := by decide +kernel
theorem dX6_readSemicolon_18 : decode cX6_readSemicolon 18 = .ok (.ireturn, 1) := by decide +kernel
set_option maxRecDepth 20000 in
theorem ggX6_readClause_X6_isLetters : GoodIn wsX6_readClause wsX6_isLetters := goodIn_r _ [5, 6, 7, 8, 9, 10, 11, 12, 13, 14, 15, 16, 17, 18, 19, 20, 21, 22, 23, 24, 25, 26, 27, 28, 29, 30, 31, 32, 33, 34, 35, 36, 37, 38, 39, 40, 41, 42, 43, 44, 45, 46, 47, 48, 49, 50, 51, 52, 53, 54, 55, 56, 57, 58, 131, 132, 133, 134, 135, 136, 137, 138, 139, 140, 141] (by decide +kernel) (by decide +kernel)
set_option maxRecDepth 20000 in
theorem gX6_readClause_X6_isLetters : GoodIn wsX6_readClause (wsV RX6 114 RX6 yX6_isLetters wsX6_isLetters) := goodIn_app (goodIn_of _ (by decide +kernel)) ggX6_readClause_X6_isLetters
set_option maxRecDepth 20000 in
theorem ggX6_readClause_X6_readMode : GoodIn wsX6_readClause wsX6_readMode := goodIn_r _ [62, 63, 64, 65, 66, 67, 68, 4, 69, 70, 71, 72, 73, 7, 74, 9, 8, 6, 75, 76, 77, 78, 79, 80, 81, 131, 132, 133, 134, 135, 136, 137, 138, 139, 140, 141, 142, 143, 144, 145, 146, 147, 148, 149, 150, 151, 152, 153] (by decide +kernel) (by decide +kernel)
set_option maxRecDepth 20000 in
theorem gX6_readClause_X6_readMode : GoodIn wsX6_readClause (wsV RX6 118 RX6 yX6_readMode wsX6_readMode) := goodIn_app (goodIn_of _ (by decide +kernel)) ggX6_readClause_X6_readMode
set_option maxRecDepth 20000 in
theorem ggX6_readClause_X6_readWithout : GoodIn wsX6_readClause wsX6_readWithout := goodIn_r _ [85, 6, 7, 8, 9, 64, 86, 70, 71, 72, 4, 73, 74, 75, 76, 77, 78, 79, 80, 81, 131, 132, 133, 134, 135, 136, 137, 138, 139, 140, 141, 142, 143, 144, 145, 146, 147, 148, 149, 150, 151, 152, 153] (by decide +kernel) (by decide +kernel)
set_option maxRecDepth 20000 in
theorem gX6_readClause_X6_readWithout : GoodIn wsX6_readClause (wsV RX6 125 RX6 yX6_readWithout wsX6_readWithout) := goodIn_app (goodIn_of _ (by decide +kernel)) ggX6_readClause_X6_readWithout
set_option maxRecDepth 20000 in
theorem ggX6_readClause_X6_readChain : GoodIn wsX6_readClause wsX6_readChain := goodIn_r _ [90, 91, 92, 93, 70, 71, 72, 4, 73, 7, 74, 9, 8, 6, 75, 76, 77, 94, 95, 96, 97, 78, 79, 80, 81, 98, 99, 100, 101, 102, 103, 104, 131, 132, 133, 134, 135, 136, 137, 138, 139, 140, 141] (by decide +kernel) (by decide +kernel)
set_option maxRecDepth 20000 in
theorem gX6_readClause_X6_readChain : GoodIn wsX6_readClause (wsV RX6 130 RX6 yX6_readChain wsX6_readChain) := goodIn_app (goodIn_of _ (by decide +kernel)) ggX6_readClause_X6_readChain
set_option maxRecDepth 20000 in
theorem ggX6_readClause_X6_readLeak : GoodIn wsX6_readClause wsX6_readLeak := goodIn_r _ [108, 70, 71, 72, 4, 73, 7, 74, 9, 8, 6, 75, 76, 77, 98, 99, 100, 101, 93, 92, 94, 95, 96, 97, 102, 103, 104, 66, 67, 68, 69, 78, 79, 80, 81, 131, 132, 133, 134, 135, 136, 137, 138, 139, 140, 141] (by decide +kernel) (by decide +kernel)
set_option maxRecDepth 20000 in
theorem gX6_readClause_X6_readLeak : GoodIn wsX6_readClause (wsV RX6 135 RX6 yX6_readLeak wsX6_readLeak) := goodIn_app (goodIn_of _ (by decide +kernel)) ggX6_readClause_X6_readLeak
set_option maxRecDepth 20000 in
theorem ggX6_readClause_X6_readData : GoodIn wsX6_readClause wsX6_readData := goodIn_r _ [112, 92, 113, 93, 70, 71, 72, 4, 73, 7, 74, 9, 8, 6, 75, 76, 77, 94, 95, 96, 97, 102, 103, 104, 66, 67, 68, 69, 78, 79, 80, 81, 131, 132, 133, 134, 135, 136, 137, 138, 139, 140, 141] (by decide +kernel) (by decide +kernel)
set_option maxRecDepth 20000 in
theorem gX6_readClause_X6_readData : GoodIn wsX6_readClause (wsV RX6 140 RX6 yX6_readData wsX6_readData) := goodIn_app (goodIn_of _ (by decide +kernel)) ggX6_readClause_X6_readData
set_option maxRecDepth 20000 in
theorem ggX6_readClause_X6_readDo : GoodIn wsX6_readClause wsX6_readDo := goodIn_r _ [117, 64, 118, 70, 71, 72, 4, 73, 7, 74, 9, 8, 6, 75, 76, 77, 119, 120, 121, 122, 92, 123, 124, 125, 126, 127, 1, 2, 3, 5, 10, 11, 12, 13, 14, 15, 16, 17, 18, 19, 20, 21, 22, 23, 24, 25, 26, 27, 28, 29, 30, 31, 32, 33, 34, 35, 36, 37, 38, 39, 40, 41, 42, 43, 44, 45, 46, 47, 48, 49, 50, 51, 52, 53, 54, 55, 56, 57, 58, 94, 95, 96, 97, 128, 103, 129, 130, 78, 79, 80, 81, 131, 132, 133, 134, 135, 136, 137, 138, 139, 140, 141, 142, 143, 144, 145, 146, 147, 148, 149, 150, 151, 152, 153] (by decide +kernel) (by decide +kernel)
set_option maxRecDepth 20000 in
theorem gX6_readClause_X6_readDo : GoodIn wsX6_readClause (wsV RX6 145 RX6 yX6_readDo wsX6_readDo) := goodIn_app (goodIn_of _ (by decide +kernel)) ggX6_readClause_X6_readDo
theorem dX6_readClause_0 : decode cX6_readClause 0 = .ok (.aload_n 0, 1) := by decide +kernel
theorem dX6_readClause_1 : decode cX6_readClause 1 = .ok (.ldc 112, 2) := by decide +kernel
theorem dX6_readClause_3 : decode cX6_readClause 3 = .ok (.invokevirtual 114, 3) := by decide +kernel
theorem dX6_readClause_6 : decode cX6_readClause 6 = .ok (.ifCond .eq 9, 3) := by decide +kernel
theorem dX6_readClause_9 : decode cX6_readClause 9 = .ok (.aload_n 0, 1) := by decide +kernel
theorem dX6_readClause_10 : decode cX6_readClause 10 = .ok (.iconst 0, 1) := by decide +kernel
theorem dX6_readClause_11 : decode cX6_readClause 11 = .ok (.invokevirtual 118, 3) := by decide +kernel
theorem dX6_readClause_14 : decode cX6_readClause 14 = .ok (.ireturn, 1) := by decide +kernel
theorem dX6_readClause_15 : decode cX6_readClause 15 = .ok (.aload_n 0, 1) := by decide +kernel
theorem dX6_readClause_16 : decode cX6_readClause 16 = .ok (.ldc 121, 2) := by decide +kernel
theorem dX6_readClause_18 : decode cX6_readClause 18 = .ok (.invokevirtual 114, 3) := by decide +kernel
theorem dX6_readClause_21 : decode cX6_readClause 21 = .ok (.ifCond .eq 9, 3) := by decide +kernel
theorem dX6_readClause_24 : decode cX6_readClause 24 = .ok (.aload_n 0, 1) := by decide +kernel
theorem dX6_readClause_25 : decode cX6_readClause 25 = .ok (.iconst 1, 1) := by decide +kernel
theorem dX6_readClause_26 : decode cX6_readClause 26 = .ok (.invokevirtual 118, 3) := by decide +kernel
theorem dX6_readClause_29 : decode cX6_readClause 29 = .ok (.ireturn, 1) := by decide +kernel
theorem dX6_readClause_30 : decode cX6_readClause 30 = .ok (.aload_n 0, 1) := by decide +kernel
theorem dX6_readClause_31 : decode cX6_readClause 31 = .ok (.ldc 123, 2) := by decide +kernel
theorem dX6_readClause_33 : decode cX6_readClause 33 = .ok (.invokevirtual 114, 3) := by decide +kernel
theorem dX6_readClause_36 : decode cX6_readClause 36 = .ok (.ifCond .eq 8, 3) := by decide +kernel
theorem dX6_readClause_39 : decode cX6_readClause 39 = .ok (.aload_n 0, 1) := by decide +kernel
theorem dX6_readClause_40 : decode cX6_readClause 40 = .ok (.invokevirtual 125, 3) := by decide +kernel
theorem dX6_readClause_43 : decode cX6_readClause 43 = .ok (.ireturn, 1) := by decide +kernel
theorem dX6_readClause_44 : decode cX6_readClause 44 = .ok (.aload_n 0, 1) := by decide +kernel
theorem dX6_readClause_45 : decode cX6_readClause 45 = .ok (.ldc 128, 2) := by decide +kernel
theorem dX6_readClause_47 : decode cX6_readClause 47 = .ok (.invokevirtual 114, 3) := by decide +kernel
theorem dX6_readClause_50 : decode cX6_readClause 50 = .ok (.ifCond .eq 8, 3) := by decide +kernel
theorem dX6_readClause_53 : decode cX6_readClause 53 = .ok (.aload_n 0, 1) := by decide +kernel
theorem dX6_readClause_54 : decode cX6_readClause 54 = .ok (.invokevirtual 130, 3) := by decide +kernel
theorem dX6_readClause_57 : decode cX6_readClause 57 = .ok (.ireturn, 1) := by decide +kernel
theorem dX6_readClause_58 : decode cX6_readClause 58 = .ok (.aload_n 0, 1) := by decide +kernel
theorem dX6_readClause_59 : decode cX6_readClause 59 = .ok (.ldc 133, 2) := by decide +kernel
theorem dX6_readClause_61 : decode cX6_readClause 61 = .ok (.invokevirtual 114, 3) := by decide +kernel
theorem dX6_readClause_64 : decode cX6_readClause 64 = .ok (.ifCond .eq 8, 3) := by decide +kernel
theorem dX6_readClause_67 : decode cX6_readClause 67 = .ok (.aload_n 0, 1) := by decide +kernel
theorem dX6_readClause_68 : decode cX6_readClause 68 = .ok (.invokevirtual 135, 3) := by decide +kernel
theorem dX6_readClause_71 : decode cX6_readClause 71 = .ok (.ireturn, 1) := by decide +kernel
theorem dX6_readClause_72 : decode cX6_readClause 72 = .ok (.aload_n 0, 1) := by decide +kernel
theorem dX6_readClause_73 : decode cX6_readClause 73 = .ok (.ldc 138, 2) := by decide +kernel
theorem dX6_readClause_75 : decode cX6_readClause 75 = .ok (.invokevirtual 114, 3) := by decide +kernel
theorem dX6_readClause_78 : decode cX6_readClause 78 = .ok (.ifCond .eq 8, 3) := by decide +kernel
theorem dX6_readClause_81 : decode cX6_readClause 81 = .ok (.aload_n 0, 1) := by decide +kernel
theorem dX6_readClause_82 : decode cX6_readClause 82 = .ok (.invokevirtual 140, 3) := by decide +kernel
theorem dX6_readClause_85 : decode cX6_readClause 85 = .ok (.ireturn, 1) := by decide +kernel
theorem dX6_readClause_86 : decode cX6_readClause 86 = .ok (.aload_n 0, 1) := by decide +kernel
theorem dX6_readClause_87 : decode cX6_readClause 87 = .ok (.ldc 143, 2) := by decide +kernel
theorem dX6_readClause_89 : decode cX6_readClause 89 = .ok (.invokevirtual 114, 3) := by decide +kernel
theorem dX6_readClause_92 : decode cX6_readClause 92 = .ok (.ifCond .eq 10, 3) := by decide +kernel
theorem dX6_readClause_95 : decode cX6_readClause 95 = .ok (.aload_n 0, 1) := by decide +kernel
theorem dX6_readClause_96 : decode cX6_readClause 96 = .ok (.invokevirtual 145, 3) := by decide +kernel
theorem dX6_readClause_99 : decode cX6_readClause 99 = .ok (.goto 4, 3) := by decide +kernel
theorem dX6_readClause_102 : decode cX6_readClause 102 = .ok (.iconst 1, 1) := by decide +kernel
theorem dX6_readClause_103 : decode cX6_readClause 103 = .ok (.ireturn, 1) := by decide +kernel
set_option maxRecDepth 20000 in
theorem ggX6_readMode_X6_readSemicolon : GoodIn wsX6_readMode wsX6_readSemicolon := goodIn_r _ [8, 9, 10, 11, 7, 12, 13, 14, 15, 16, 17, 18, 19, 20, 21, 22, 23, 24, 25, 26, 27, 28, 29, 30, 31, 32, 33, 34, 35] (by decide +kernel) (by decide +kernel)
set_option maxRecDepth 20000 in
theorem gX6_readMode_X6_readSemicolon : GoodIn wsX6_readMode (wsV RX6 148 RX6 yX6_readSemicolon wsX6_readSemicolon) := goodIn_app (goodIn_of _ (by decide +kernel)) ggX6_readMode_X6_readSemicolon
theorem dX6_readMode_0 : decode cX6_readMode 0 = .ok (.aload_n 0, 1) := by decide +kernel
theorem dX6_readMode_1 : decode cX6_readMode 1 = .ok (.getfield 48, 3) := by decide +kernel
theorem dX6_readMode_4 : decode cX6_readMode 4 = .ok (.ifCond .eq 5, 3) := by decide +kernel
theorem dX6_readMode_7 : decode cX6_readMode 7 = .ok (.iconst 4, 1) := by decide +kernel
theorem dX6_readMode_8 : decode cX6_readMode 8 = .ok (.ireturn, 1) := by decide +kernel
theorem dX6_readMode_9 : decode cX6_readMode 9 = .ok (.aload_n 0, 1) := by decide +kernel
theorem dX6_readMode_10 : decode cX6_readMode 10 = .ok (.iconst 1, 1) := by decide +kernel
theorem dX6_readMode_11 : decode cX6_readMode 11 = .ok (.putfield 48, 3) := by decide +kernel
theorem dX6_readMode_14 : decode cX6_readMode 14 = .ok (.aload_n 0, 1) := by decide +kernel
theorem dX6_readMode_15 : decode cX6_readMode 15 = .ok (.getfield 12, 3) := by decide +kernel
theorem dX6_readMode_18 : decode cX6_readMode 18 = .ok (.iload_n 1, 1) := by decide +kernel
theorem dX6_readMode_19 : decode cX6_readMode 19 = .ok (.putfield 90, 3) := by decide +kernel
theorem dX6_readMode_22 : decode cX6_readMode 22 = .ok (.aload_n 0, 1) := by decide +kernel
theorem dX6_readMode_23 : decode cX6_readMode 23 = .ok (.invokevirtual 148, 3) := by decide +kernel
theorem dX6_readMode_26 : decode cX6_readMode 26 = .ok (.ireturn, 1) := by decide +kernel
set_option maxRecDepth 20000 in
theorem ggX6_readWithout_X6_goOn : GoodIn wsX6_readWithout wsX6_goOn := goodIn_r _ [11, 2, 12, 4, 3, 1, 13, 14, 10, 15, 20, 21, 22, 23, 24, 25, 26, 27, 28, 29, 30] (by decide +kernel) (by decide +kernel)
set_option maxRecDepth 20000 in
theorem gX6_readWithout_X6_goOn : GoodIn wsX6_readWithout (wsV RX6 67 RX6 yX6_goOn wsX6_goOn) := goodIn_app (goodIn_of _ (by decide +kernel)) ggX6_readWithout_X6_goOn
set_option maxRecDepth 20000 in
theorem ggX6_readWithout_X6_isSign : GoodIn wsX6_readWithout wsX6_isSign := goodIn_r _ [19, 1, 4, 3, 20, 21, 22, 23, 24, 25, 26, 27, 28, 29, 30] (by decide +kernel) (by decide +kernel)
set_option maxRecDepth 20000 in
theorem gX6_readWithout_X6_isSign : GoodIn wsX6_readWithout (wsV RX6 108 RX6 yX6_isSign wsX6_isSign) := goodIn_app (goodIn_of _ (by decide +kernel)) ggX6_readWithout_X6_isSign
theorem dX6_readWithout_0 : decode cX6_readWithout 0 = .ok (.iconst 0, 1) := by decide +kernel
theorem dX6_readWithout_1 : decode cX6_readWithout 1 = .ok (.istore_n 1, 1) := by decide +kernel
theorem dX6_readWithout_2 : decode cX6_readWithout 2 = .ok (.iload_n 1, 1) := by decide +kernel
theorem dX6_readWithout_3 : decode cX6_readWithout 3 = .ok (.bipush 7, 2) := by decide +kernel
theorem dX6_readWithout_5 : decode cX6_readWithout 5 = .ok (.if_icmp .gt 106, 3) := by decide +kernel
theorem dX6_readWithout_8 : decode cX6_readWithout 8 = .ok (.aload_n 0, 1) := by decide +kernel
theorem dX6_readWithout_9 : decode cX6_readWithout 9 = .ok (.invokevirtual 67, 3) := by decide +kernel
theorem dX6_readWithout_12 : decode cX6_readWithout 12 = .ok (.iload_n 1, 1) := by decide +kernel
theorem dX6_readWithout_13 : decode cX6_readWithout 13 = .ok (.ifCond .le 14, 3) := by decide +kernel
theorem dX6_readWithout_16 : decode cX6_readWithout 16 = .ok (.aload_n 0, 1) := by decide +kernel
theorem dX6_readWithout_17 : decode cX6_readWithout 17 = .ok (.bipush 59, 2) := by decide +kernel
theorem dX6_readWithout_19 : decode cX6_readWithout 19 = .ok (.invokevirtual 108, 3) := by decide +kernel
theorem dX6_readWithout_22 : decode cX6_readWithout 22 = .ok (.ifCond .eq 5, 3) := by decide +kernel
theorem dX6_readWithout_25 : decode cX6_readWithout 25 = .ok (.iconst 0, 1) := by decide +kernel
theorem dX6_readWithout_26 : decode cX6_readWithout 26 = .ok (.ireturn, 1) := by decide +kernel
theorem dX6_readWithout_27 : decode cX6_readWithout 27 = .ok (.aload_n 0, 1) := by decide +kernel
theorem dX6_readWithout_28 : decode cX6_readWithout 28 = .ok (.getfield 39, 3) := by decide +kernel
theorem dX6_readWithout_31 : decode cX6_readWithout 31 = .ok (.iconst 1, 1) := by decide +kernel
theorem dX6_readWithout_32 : decode cX6_readWithout 32 = .ok (.if_icmp .ne 31, 3) := by decide +kernel
theorem dX6_readWithout_35 : decode cX6_readWithout 35 = .ok (.aload_n 0, 1) := by decide +kernel
theorem dX6_readWithout_36 : decode cX6_readWithout 36 = .ok (.getfield 36, 3) := by decide +kernel
theorem dX6_readWithout_39 : decode cX6_readWithout 39 = .ok (.aload_n 0, 1) := by decide +kernel
theorem dX6_readWithout_40 : decode cX6_readWithout 40 = .ok (.getfield 42, 3) := by decide +kernel
theorem dX6_readWithout_43 : decode cX6_readWithout 43 = .ok (.isub, 1) := by decide +kernel
theorem dX6_readWithout_44 : decode cX6_readWithout 44 = .ok (.iconst 1, 1) := by decide +kernel
theorem dX6_readWithout_45 : decode cX6_readWithout 45 = .ok (.if_icmp .ne 18, 3) := by decide +kernel
theorem dX6_readWithout_48 : decode cX6_readWithout 48 = .ok (.aload_n 0, 1) := by decide +kernel
theorem dX6_readWithout_49 : decode cX6_readWithout 49 = .ok (.getfield 29, 3) := by decide +kernel
theorem dX6_readWithout_52 : decode cX6_readWithout 52 = .ok (.aload_n 0, 1) := by decide +kernel
theorem dX6_readWithout_53 : decode cX6_readWithout 53 = .ok (.getfield 42, 3) := by decide +kernel
theorem dX6_readWithout_56 : decode cX6_readWithout 56 = .ok (.iaload, 1) := by decide +kernel
theorem dX6_readWithout_57 : decode cX6_readWithout 57 = .ok (.bipush 97, 2) := by decide +kernel
theorem dX6_readWithout_59 : decode cX6_readWithout 59 = .ok (.isub, 1) := by decide +kernel
theorem dX6_readWithout_60 : decode cX6_readWithout 60 = .ok (.goto 5, 3) := by decide +kernel
theorem dX6_readWithout_63 : decode cX6_readWithout 63 = .ok (.bipush 7, 2) := by decide +kernel
theorem dX6_readWithout_65 : decode cX6_readWithout 65 = .ok (.istore_n 2, 1) := by decide +kernel
theorem dX6_readWithout_66 : decode cX6_readWithout 66 = .ok (.iload_n 2, 1) := by decide +kernel
theorem dX6_readWithout_67 : decode cX6_readWithout 67 = .ok (.bipush 7, 2) := by decide +kernel
theorem dX6_readWithout_69 : decode cX6_readWithout 69 = .ok (.if_icmp .lt 5, 3) := by decide +kernel
theorem dX6_readWithout_72 : decode cX6_readWithout 72 = .ok (.iconst 1, 1) := by decide +kernel
theorem dX6_readWithout_73 : decode cX6_readWithout 73 = .ok (.ireturn, 1) := by decide +kernel
theorem dX6_readWithout_74 : decode cX6_readWithout 74 = .ok (.aload_n 0, 1) := by decide +kernel
theorem dX6_readWithout_75 : decode cX6_readWithout 75 = .ok (.getfield 12, 3) := by decide +kernel
theorem dX6_readWithout_78 : decode cX6_readWithout 78 = .ok (.getfield 93, 3) := by decide +kernel
theorem dX6_readWithout_81 : decode cX6_readWithout 81 = .ok (.iload_n 2, 1) := by decide +kernel
theorem dX6_readWithout_82 : decode cX6_readWithout 82 = .ok (.ishr, 1) := by decide +kernel
theorem dX6_readWithout_83 : decode cX6_readWithout 83 = .ok (.iconst 1, 1) := by decide +kernel
theorem dX6_readWithout_84 : decode cX6_readWithout 84 = .ok (.iand, 1) := by decide +kernel
theorem dX6_readWithout_85 : decode cX6_readWithout 85 = .ok (.ifCond .eq 5, 3) := by decide +kernel
theorem dX6_readWithout_88 : decode cX6_readWithout 88 = .ok (.iconst 4, 1) := by decide +kernel
theorem dX6_readWithout_89 : decode cX6_readWithout 89 = .ok (.ireturn, 1) := by decide +kernel
theorem dX6_readWithout_90 : decode cX6_readWithout 90 = .ok (.aload_n 0, 1) := by decide +kernel
theorem dX6_readWithout_91 : decode cX6_readWithout 91 = .ok (.getfield 12, 3) := by decide +kernel
theorem dX6_readWithout_94 : decode cX6_readWithout 94 = .ok (.dup, 1) := by decide +kernel
theorem dX6_readWithout_95 : decode cX6_readWithout 95 = .ok (.getfield 93, 3) := by decide +kernel
theorem dX6_readWithout_98 : decode cX6_readWithout 98 = .ok (.iconst 1, 1) := by decide +kernel
theorem dX6_readWithout_99 : decode cX6_readWithout 99 = .ok (.iload_n 2, 1) := by decide +kernel
theorem dX6_readWithout_100 : decode cX6_readWithout 100 = .ok (.ishl, 1) := by decide +kernel
theorem dX6_readWithout_101 : decode cX6_readWithout 101 = .ok (.ior, 1) := by decide +kernel
theorem dX6_readWithout_102 : decode cX6_readWithout 102 = .ok (.putfield 93, 3) := by decide +kernel
theorem dX6_readWithout_105 : decode cX6_readWithout 105 = .ok (.iinc 1 1, 3) := by decide +kernel
theorem dX6_readWithout_108 : decode cX6_readWithout 108 = .ok (.goto (-106), 3) := by decide +kernel
theorem dX6_readWithout_111 : decode cX6_readWithout 111 = .ok (.iconst 1, 1) := by decide +kernel
theorem dX6_readWithout_112 : decode cX6_readWithout 112 = .ok (.ireturn, 1) := by decide +kernel
set_option maxRecDepth 20000 in
theorem ggX6_readChain_X6_goOn : GoodIn wsX6_readChain wsX6_goOn := goodIn_r _ [8, 9, 10, 11, 12, 13, 14, 15, 7, 16, 32, 33, 34, 35, 36, 37, 38, 39, 40, 41, 42] (by decide +kernel) (by decide +kernel)
set_option maxRecDepth 20000 in
theorem gX6_readChain_X6_goOn : GoodIn wsX6_readChain (wsV RX6 67 RX6 yX6_goOn wsX6_goOn) := goodIn_app (goodIn_of _ (by decide +kernel)) ggX6_readChain_X6_goOn
set_option maxRecDepth 20000 in
theorem ggX6_readChain_X6_judgeNumber : GoodIn wsX6_readChain wsX6_judgeNumber := goodIn_r _ [20, 13, 9, 12, 2, 11, 32, 33, 34, 35, 36, 37, 38, 39, 40, 41, 42] (by decide +kernel) (by decide +kernel)
set_option maxRecDepth 20000 in
theorem gX6_readChain_X6_judgeNumber : GoodIn wsX6_readChain (wsV RX6 151 RX6 yX6_judgeNumber wsX6_judgeNumber) := goodIn_app (goodIn_of _ (by decide +kernel)) ggX6_readChain_X6_judgeNumber
set_option maxRecDepth 20000 in
theorem ggX6_readChain_X6_isSign : GoodIn wsX6_readChain wsX6_isSign := goodIn_r _ [24, 13, 11, 12, 32, 33, 34, 35, 36, 37, 38, 39, 40, 41, 42] (by decide +kernel) (by decide +kernel)
set_option maxRecDepth 20000 in
theorem gX6_readChain_X6_isSign : GoodIn wsX6_readChain (wsV RX6 108 RX6 yX6_isSign wsX6_isSign) := goodIn_app (goodIn_of _ (by decide +kernel)) ggX6_readChain_X6_isSign
set_option maxRecDepth 20000 in
theorem ggX6_readChain_X6_judgeBlock : GoodIn wsX6_readChain wsX6_judgeBlock := goodIn_r _ [28, 3, 2, 17, 18, 19, 7, 20, 13, 9, 12, 11, 29, 30, 31, 32, 33, 34, 35, 36, 37, 38, 39, 40, 41, 42] (by decide +kernel) (by decide +kernel)
set_option maxRecDepth 20000 in
theorem gX6_readChain_X6_judgeBlock : GoodIn wsX6_readChain (wsV RX6 154 RX6 yX6_judgeBlock wsX6_judgeBlock) := goodIn_app (goodIn_of _ (by decide +kernel)) ggX6_readChain_X6_judgeBlock
set_option maxRecDepth 20000 in
theorem ggX6_readChain_X11_blockAddress : GoodIn wsX6_readChain wsX11_blockAddress := goodIn_r _ [31] (by decide +kernel) (by decide +kernel)
set_option maxRecDepth 20000 in
theorem gX6_readChain_X11_blockAddress_n157 : GoodIn wsX6_readChain (wsX11_blockAddress) := ggX6_readChain_X11_blockAddress
theorem dX6_readChain_0 : decode cX6_readChain 0 = .ok (.aload_n 0, 1) := by decide +kernel
theorem dX6_readChain_1 : decode cX6_readChain 1 = .ok (.invokevirtual 67, 3) := by decide +kernel
theorem dX6_readChain_4 : decode cX6_readChain 4 = .ok (.aload_n 0, 1) := by decide +kernel
theorem dX6_readChain_5 : decode cX6_readChain 5 = .ok (.iconst 0, 1) := by decide +kernel
theorem dX6_readChain_6 : decode cX6_readChain 6 = .ok (.iconst 3, 1) := by decide +kernel
theorem dX6_readChain_7 : decode cX6_readChain 7 = .ok (.invokevirtual 151, 3) := by decide +kernel
theorem dX6_readChain_10 : decode cX6_readChain 10 = .ok (.istore_n 1, 1) := by decide +kernel
theorem dX6_readChain_11 : decode cX6_readChain 11 = .ok (.iload_n 1, 1) := by decide +kernel
theorem dX6_readChain_12 : decode cX6_readChain 12 = .ok (.ifCond .eq 5, 3) := by decide +kernel
theorem dX6_readChain_15 : decode cX6_readChain 15 = .ok (.iload_n 1, 1) := by decide +kernel
theorem dX6_readChain_16 : decode cX6_readChain 16 = .ok (.ireturn, 1) := by decide +kernel
theorem dX6_readChain_17 : decode cX6_readChain 17 = .ok (.aload_n 0, 1) := by decide +kernel
theorem dX6_readChain_18 : decode cX6_readChain 18 = .ok (.getfield 55, 3) := by decide +kernel
theorem dX6_readChain_21 : decode cX6_readChain 21 = .ok (.aload_n 0, 1) := by decide +kernel
theorem dX6_readChain_22 : decode cX6_readChain 22 = .ok (.getfield 45, 3) := by decide +kernel
theorem dX6_readChain_25 : decode cX6_readChain 25 = .ok (.ishr, 1) := by decide +kernel
theorem dX6_readChain_26 : decode cX6_readChain 26 = .ok (.iconst 1, 1) := by decide +kernel
theorem dX6_readChain_27 : decode cX6_readChain 27 = .ok (.iand, 1) := by decide +kernel
theorem dX6_readChain_28 : decode cX6_readChain 28 = .ok (.ifCond .eq 5, 3) := by decide +kernel
theorem dX6_readChain_31 : decode cX6_readChain 31 = .ok (.iconst 4, 1) := by decide +kernel
theorem dX6_readChain_32 : decode cX6_readChain 32 = .ok (.ireturn, 1) := by decide +kernel
theorem dX6_readChain_33 : decode cX6_readChain 33 = .ok (.aload_n 0, 1) := by decide +kernel
theorem dX6_readChain_34 : decode cX6_readChain 34 = .ok (.dup, 1) := by decide +kernel
theorem dX6_readChain_35 : decode cX6_readChain 35 = .ok (.getfield 55, 3) := by decide +kernel
theorem dX6_readChain_38 : decode cX6_readChain 38 = .ok (.iconst 1, 1) := by decide +kernel
theorem dX6_readChain_39 : decode cX6_readChain 39 = .ok (.aload_n 0, 1) := by decide +kernel
theorem dX6_readChain_40 : decode cX6_readChain 40 = .ok (.getfield 45, 3) := by decide +kernel
theorem dX6_readChain_43 : decode cX6_readChain 43 = .ok (.ishl, 1) := by decide +kernel
theorem dX6_readChain_44 : decode cX6_readChain 44 = .ok (.ior, 1) := by decide +kernel
theorem dX6_readChain_45 : decode cX6_readChain 45 = .ok (.putfield 55, 3) := by decide +kernel
theorem dX6_readChain_48 : decode cX6_readChain 48 = .ok (.bipush 20, 2) := by decide +kernel
theorem dX6_readChain_50 : decode cX6_readChain 50 = .ok (.aload_n 0, 1) := by decide +kernel
theorem dX6_readChain_51 : decode cX6_readChain 51 = .ok (.getfield 45, 3) := by decide +kernel
theorem dX6_readChain_54 : decode cX6_readChain 54 = .ok (.iadd, 1) := by decide +kernel
theorem dX6_readChain_55 : decode cX6_readChain 55 = .ok (.istore_n 2, 1) := by decide +kernel
theorem dX6_readChain_56 : decode cX6_readChain 56 = .ok (.iconst 0, 1) := by decide +kernel
theorem dX6_readChain_57 : decode cX6_readChain 57 = .ok (.istore_n 3, 1) := by decide +kernel
theorem dX6_readChain_58 : decode cX6_readChain 58 = .ok (.iload_n 3, 1) := by decide +kernel
theorem dX6_readChain_59 : decode cX6_readChain 59 = .ok (.bipush 10, 2) := by decide +kernel
theorem dX6_readChain_61 : decode cX6_readChain 61 = .ok (.if_icmp .gt 62, 3) := by decide +kernel
theorem dX6_readChain_64 : decode cX6_readChain 64 = .ok (.aload_n 0, 1) := by decide +kernel
theorem dX6_readChain_65 : decode cX6_readChain 65 = .ok (.invokevirtual 67, 3) := by decide +kernel
theorem dX6_readChain_68 : decode cX6_readChain 68 = .ok (.iload_n 3, 1) := by decide +kernel
theorem dX6_readChain_69 : decode cX6_readChain 69 = .ok (.ifCond .le 14, 3) := by decide +kernel
theorem dX6_readChain_72 : decode cX6_readChain 72 = .ok (.aload_n 0, 1) := by decide +kernel
theorem dX6_readChain_73 : decode cX6_readChain 73 = .ok (.bipush 59, 2) := by decide +kernel
theorem dX6_readChain_75 : decode cX6_readChain 75 = .ok (.invokevirtual 108, 3) := by decide +kernel
theorem dX6_readChain_78 : decode cX6_readChain 78 = .ok (.ifCond .eq 5, 3) := by decide +kernel
theorem dX6_readChain_81 : decode cX6_readChain 81 = .ok (.iconst 0, 1) := by decide +kernel
theorem dX6_readChain_82 : decode cX6_readChain 82 = .ok (.ireturn, 1) := by decide +kernel
theorem dX6_readChain_83 : decode cX6_readChain 83 = .ok (.aload_n 0, 1) := by decide +kernel
theorem dX6_readChain_84 : decode cX6_readChain 84 = .ok (.invokevirtual 154, 3) := by decide +kernel
theorem dX6_readChain_87 : decode cX6_readChain 87 = .ok (.istore_n 1, 1) := by decide +kernel
theorem dX6_readChain_88 : decode cX6_readChain 88 = .ok (.iload_n 1, 1) := by decide +kernel
theorem dX6_readChain_89 : decode cX6_readChain 89 = .ok (.ifCond .eq 5, 3) := by decide +kernel
theorem dX6_readChain_92 : decode cX6_readChain 92 = .ok (.iload_n 1, 1) := by decide +kernel
theorem dX6_readChain_93 : decode cX6_readChain 93 = .ok (.ireturn, 1) := by decide +kernel
theorem dX6_readChain_94 : decode cX6_readChain 94 = .ok (.aload_n 0, 1) := by decide +kernel
theorem dX6_readChain_95 : decode cX6_readChain 95 = .ok (.getfield 28, 3) := by decide +kernel
theorem dX6_readChain_98 : decode cX6_readChain 98 = .ok (.iload_n 2, 1) := by decide +kernel
theorem dX6_readChain_99 : decode cX6_readChain 99 = .ok (.aload_n 0, 1) := by decide +kernel
theorem dX6_readChain_100 : decode cX6_readChain 100 = .ok (.getfield 45, 3) := by decide +kernel
theorem dX6_readChain_103 : decode cX6_readChain 103 = .ok (.invokestatic 157, 3) := by decide +kernel
theorem dX6_readChain_106 : decode cX6_readChain 106 = .ok (.iastore, 1) := by decide +kernel
theorem dX6_readChain_107 : decode cX6_readChain 107 = .ok (.aload_n 0, 1) := by decide +kernel
theorem dX6_readChain_108 : decode cX6_readChain 108 = .ok (.getfield 45, 3) := by decide +kernel
theorem dX6_readChain_111 : decode cX6_readChain 111 = .ok (.invokestatic 157, 3) := by decide +kernel
theorem dX6_readChain_114 : decode cX6_readChain 114 = .ok (.iconst 1, 1) := by decide +kernel
theorem dX6_readChain_115 : decode cX6_readChain 115 = .ok (.iadd, 1) := by decide +kernel
theorem dX6_readChain_116 : decode cX6_readChain 116 = .ok (.istore_n 2, 1) := by decide +kernel
theorem dX6_readChain_117 : decode cX6_readChain 117 = .ok (.iinc 3 1, 3) := by decide +kernel
theorem dX6_readChain_120 : decode cX6_readChain 120 = .ok (.goto (-62), 3) := by decide +kernel
theorem dX6_readChain_123 : decode cX6_readChain 123 = .ok (.iconst 1, 1) := by decide +kernel
theorem dX6_readChain_124 : decode cX6_readChain 124 = .ok (.ireturn, 1) := by decide +kernel
set_option maxRecDepth 20000 in
theorem ggX6_judgeBlock_X6_judgeNumber : GoodIn wsX6_judgeBlock wsX6_judgeNumber := goodIn_r _ [7, 8, 9, 10, 2, 11, 15, 16, 17, 18, 19, 20, 21, 22, 23, 24, 25] (by decide +kernel) (by decide +kernel)
set_option maxRecDepth 20000 in
theorem gX6_judgeBlock_X6_judgeNumber : GoodIn wsX6_judgeBlock (wsV RX6 151 RX6 yX6_judgeNumber wsX6_judgeNumber) := goodIn_app (goodIn_of _ (by decide +kernel)) ggX6_judgeBlock_X6_judgeNumber
set_option maxRecDepth 20000 in
theorem ggX6_judgeBlock_X11_blockAddress : GoodIn wsX6_judgeBlock wsX11_blockAddress := goodIn_r _ [14] (by decide +kernel) (by decide +kernel)
set_option maxRecDepth 20000 in
theorem gX6_judgeBlock_X11_blockAddress_n157 : GoodIn wsX6_judgeBlock (wsX11_blockAddress) := ggX6_judgeBlock_X11_blockAddress
theorem dX6_judgeBlock_0 : decode cX6_judgeBlock 0 = .ok (.aload_n 0, 1) := by decide +kernel
theorem dX6_judgeBlock_1 : decode cX6_judgeBlock 1 = .ok (.iconst 0, 1) := by decide +kernel
theorem dX6_judgeBlock_2 : decode cX6_judgeBlock 2 = .ok (.bipush 9, 2) := by decide +kernel
theorem dX6_judgeBlock_4 : decode cX6_judgeBlock 4 = .ok (.invokevirtual 151, 3) := by decide +kernel
theorem dX6_judgeBlock_7 : decode cX6_judgeBlock 7 = .ok (.istore_n 1, 1) := by decide +kernel
theorem dX6_judgeBlock_8 : decode cX6_judgeBlock 8 = .ok (.iload_n 1, 1) := by decide +kernel
theorem dX6_judgeBlock_9 : decode cX6_judgeBlock 9 = .ok (.ifCond .eq 5, 3) := by decide +kernel
theorem dX6_judgeBlock_12 : decode cX6_judgeBlock 12 = .ok (.iload_n 1, 1) := by decide +kernel
theorem dX6_judgeBlock_13 : decode cX6_judgeBlock 13 = .ok (.ireturn, 1) := by decide +kernel
theorem dX6_judgeBlock_14 : decode cX6_judgeBlock 14 = .ok (.aload_n 0, 1) := by decide +kernel
theorem dX6_judgeBlock_15 : decode cX6_judgeBlock 15 = .ok (.getfield 28, 3) := by decide +kernel
theorem dX6_judgeBlock_18 : decode cX6_judgeBlock 18 = .ok (.aload_n 0, 1) := by decide +kernel
theorem dX6_judgeBlock_19 : decode cX6_judgeBlock 19 = .ok (.getfield 45, 3) := by decide +kernel
theorem dX6_judgeBlock_22 : decode cX6_judgeBlock 22 = .ok (.invokestatic 157, 3) := by decide +kernel
theorem dX6_judgeBlock_25 : decode cX6_judgeBlock 25 = .ok (.iaload, 1) := by decide +kernel
theorem dX6_judgeBlock_26 : decode cX6_judgeBlock 26 = .ok (.ifCond .eq 5, 3) := by decide +kernel
theorem dX6_judgeBlock_29 : decode cX6_judgeBlock 29 = .ok (.iconst 3, 1) := by decide +kernel
theorem dX6_judgeBlock_30 : decode cX6_judgeBlock 30 = .ok (.ireturn, 1) := by decide +kernel
theorem dX6_judgeBlock_31 : decode cX6_judgeBlock 31 = .ok (.aload_n 0, 1) := by decide +kernel
theorem dX6_judgeBlock_32 : decode cX6_judgeBlock 32 = .ok (.getfield 28, 3) := by decide +kernel
theorem dX6_judgeBlock_35 : decode cX6_judgeBlock 35 = .ok (.aload_n 0, 1) := by decide +kernel
theorem dX6_judgeBlock_36 : decode cX6_judgeBlock 36 = .ok (.getfield 45, 3) := by decide +kernel
theorem dX6_judgeBlock_39 : decode cX6_judgeBlock 39 = .ok (.invokestatic 157, 3) := by decide +kernel
theorem dX6_judgeBlock_42 : decode cX6_judgeBlock 42 = .ok (.iconst 1, 1) := by decide +kernel
theorem dX6_judgeBlock_43 : decode cX6_judgeBlock 43 = .ok (.iastore, 1) := by decide +kernel
theorem dX6_judgeBlock_44 : decode cX6_judgeBlock 44 = .ok (.iconst 0, 1) := by decide +kernel
theorem dX6_judgeBlock_45 : decode cX6_judgeBlock 45 = .ok (.ireturn, 1) := by decide +kernel
set_option maxRecDepth 20000 in
theorem ggX6_readLeak_X6_goOn : GoodIn wsX6_readLeak wsX6_goOn := goodIn_r _ [5, 6, 7, 8, 9, 10, 11, 12, 4, 13, 35, 36, 37, 38, 39, 40, 41, 42, 43, 44, 45] (by decide +kernel) (by decide +kernel)
set_option maxRecDepth 20000 in
theorem gX6_readLeak_X6_goOn : GoodIn wsX6_readLeak (wsV RX6 67 RX6 yX6_goOn wsX6_goOn) := goodIn_app (goodIn_of _ (by decide +kernel)) ggX6_readLeak_X6_goOn
set_option maxRecDepth 20000 in
theorem ggX6_readLeak_X6_judgeBlock : GoodIn wsX6_readLeak wsX6_judgeBlock := goodIn_r _ [17, 18, 19, 20, 21, 22, 4, 23, 10, 6, 9, 8, 24, 25, 26, 35, 36, 37, 38, 39, 40, 41, 42, 43, 44, 45] (by decide +kernel) (by decide +kernel)
set_option maxRecDepth 20000 in
theorem gX6_readLeak_X6_judgeBlock : GoodIn wsX6_readLeak (wsV RX6 154 RX6 yX6_judgeBlock wsX6_judgeBlock) := goodIn_app (goodIn_of _ (by decide +kernel)) ggX6_readLeak_X6_judgeBlock
set_option maxRecDepth 20000 in
theorem ggX6_readLeak_X6_readSemicolon : GoodIn wsX6_readLeak wsX6_readSemicolon := goodIn_r _ [30, 1, 2, 3, 4, 5, 6, 7, 8, 9, 10, 11, 12, 13, 31, 32, 33, 34, 35, 36, 37, 38, 39, 40, 41, 42, 43, 44, 45] (by decide +kernel) (by decide +kernel)
set_option maxRecDepth 20000 in
theorem gX6_readLeak_X6_readSemicolon : GoodIn wsX6_readLeak (wsV RX6 148 RX6 yX6_readSemicolon wsX6_readSemicolon) := goodIn_app (goodIn_of _ (by decide +kernel)) ggX6_readLeak_X6_readSemicolon
theorem dX6_readLeak_0 : decode cX6_readLeak 0 = .ok (.aload_n 0, 1) := by decide +kernel
theorem dX6_readLeak_1 : decode cX6_readLeak 1 = .ok (.invokevirtual 67, 3) := by decide +kernel
theorem dX6_readLeak_4 : decode cX6_readLeak 4 = .ok (.aload_n 0, 1) := by decide +kernel
theorem dX6_readLeak_5 : decode cX6_readLeak 5 = .ok (.invokevirtual 154, 3) := by decide +kernel
theorem dX6_readLeak_8 : decode cX6_readLeak 8 = .ok (.istore_n 1, 1) := by decide +kernel
theorem dX6_readLeak_9 : decode cX6_readLeak 9 = .ok (.iload_n 1, 1) := by decide +kernel
theorem dX6_readLeak_10 : decode cX6_readLeak 10 = .ok (.ifCond .eq 7, 3) := by decide +kernel
theorem dX6_readLeak_13 : decode cX6_readLeak 13 = .ok (.iload_n 1, 1) := by decide +kernel
theorem dX6_readLeak_14 : decode cX6_readLeak 14 = .ok (.goto 7, 3) := by decide +kernel
theorem dX6_readLeak_17 : decode cX6_readLeak 17 = .ok (.aload_n 0, 1) := by decide +kernel
theorem dX6_readLeak_18 : decode cX6_readLeak 18 = .ok (.invokevirtual 148, 3) := by decide +kernel
theorem dX6_readLeak_21 : decode cX6_readLeak 21 = .ok (.ireturn, 1) := by decide +kernel
set_option maxRecDepth 20000 in
theorem ggX6_readData_X6_goOn : GoodIn wsX6_readData wsX6_goOn := goodIn_r _ [8, 9, 10, 11, 12, 13, 14, 15, 7, 16, 32, 33, 34, 35, 36, 37, 38, 39, 40, 41, 42] (by decide +kernel) (by decide +kernel)
set_option maxRecDepth 20000 in
theorem gX6_readData_X6_goOn : GoodIn wsX6_readData (wsV RX6 67 RX6 yX6_goOn wsX6_goOn) := goodIn_app (goodIn_of _ (by decide +kernel)) ggX6_readData_X6_goOn
set_option maxRecDepth 20000 in
theorem ggX6_readData_X6_judgeNumber : GoodIn wsX6_readData wsX6_judgeNumber := goodIn_r _ [20, 13, 9, 12, 1, 11, 32, 33, 34, 35, 36, 37, 38, 39, 40, 41, 42] (by decide +kernel) (by decide +kernel)
set_option maxRecDepth 20000 in
theorem gX6_readData_X6_judgeNumber : GoodIn wsX6_readData (wsV RX6 151 RX6 yX6_judgeNumber wsX6_judgeNumber) := goodIn_app (goodIn_of _ (by decide +kernel)) ggX6_readData_X6_judgeNumber
set_option maxRecDepth 20000 in
theorem ggX6_readData_X11_blockAddress : GoodIn wsX6_readData wsX11_blockAddress := goodIn_r _ [23] (by decide +kernel) (by decide +kernel)
set_option maxRecDepth 20000 in
theorem gX6_readData_X11_blockAddress_n157 : GoodIn wsX6_readData (wsX11_blockAddress) := ggX6_readData_X11_blockAddress
set_option maxRecDepth 20000 in
theorem ggX6_readData_X6_readSemicolon : GoodIn wsX6_readData wsX6_readSemicolon := goodIn_r _ [27, 4, 5, 6, 7, 8, 9, 10, 11, 12, 13, 14, 15, 16, 28, 29, 30, 31, 32, 33, 34, 35, 36, 37, 38, 39, 40, 41, 42] (by decide +kernel) (by decide +kernel)
set_option maxRecDepth 20000 in
theorem gX6_readData_X6_readSemicolon : GoodIn wsX6_readData (wsV RX6 148 RX6 yX6_readSemicolon wsX6_readSemicolon) := goodIn_app (goodIn_of _ (by decide +kernel)) ggX6_readData_X6_readSemicolon
theorem dX6_readData_0 : decode cX6_readData 0 = .ok (.aload_n 0, 1) := by decide +kernel
theorem dX6_readData_1 : decode cX6_readData 1 = .ok (.invokevirtual 67, 3) := by decide +kernel
theorem dX6_readData_4 : decode cX6_readData 4 = .ok (.aload_n 0, 1) := by decide +kernel
theorem dX6_readData_5 : decode cX6_readData 5 = .ok (.iconst 0, 1) := by decide +kernel
theorem dX6_readData_6 : decode cX6_readData 6 = .ok (.bipush 9, 2) := by decide +kernel
theorem dX6_readData_8 : decode cX6_readData 8 = .ok (.invokevirtual 151, 3) := by decide +kernel
theorem dX6_readData_11 : decode cX6_readData 11 = .ok (.istore_n 1, 1) := by decide +kernel
theorem dX6_readData_12 : decode cX6_readData 12 = .ok (.iload_n 1, 1) := by decide +kernel
theorem dX6_readData_13 : decode cX6_readData 13 = .ok (.ifCond .eq 5, 3) := by decide +kernel
theorem dX6_readData_16 : decode cX6_readData 16 = .ok (.iload_n 1, 1) := by decide +kernel
theorem dX6_readData_17 : decode cX6_readData 17 = .ok (.ireturn, 1) := by decide +kernel
theorem dX6_readData_18 : decode cX6_readData 18 = .ok (.aload_n 0, 1) := by decide +kernel
theorem dX6_readData_19 : decode cX6_readData 19 = .ok (.getfield 45, 3) := by decide +kernel
theorem dX6_readData_22 : decode cX6_readData 22 = .ok (.istore_n 2, 1) := by decide +kernel
theorem dX6_readData_23 : decode cX6_readData 23 = .ok (.aload_n 0, 1) := by decide +kernel
theorem dX6_readData_24 : decode cX6_readData 24 = .ok (.getfield 52, 3) := by decide +kernel
theorem dX6_readData_27 : decode cX6_readData 27 = .ok (.iload_n 2, 1) := by decide +kernel
theorem dX6_readData_28 : decode cX6_readData 28 = .ok (.ishr, 1) := by decide +kernel
theorem dX6_readData_29 : decode cX6_readData 29 = .ok (.iconst 1, 1) := by decide +kernel
theorem dX6_readData_30 : decode cX6_readData 30 = .ok (.iand, 1) := by decide +kernel
theorem dX6_readData_31 : decode cX6_readData 31 = .ok (.ifCond .eq 5, 3) := by decide +kernel
theorem dX6_readData_34 : decode cX6_readData 34 = .ok (.iconst 3, 1) := by decide +kernel
theorem dX6_readData_35 : decode cX6_readData 35 = .ok (.ireturn, 1) := by decide +kernel
theorem dX6_readData_36 : decode cX6_readData 36 = .ok (.aload_n 0, 1) := by decide +kernel
theorem dX6_readData_37 : decode cX6_readData 37 = .ok (.dup, 1) := by decide +kernel
theorem dX6_readData_38 : decode cX6_readData 38 = .ok (.getfield 52, 3) := by decide +kernel
theorem dX6_readData_41 : decode cX6_readData 41 = .ok (.iconst 1, 1) := by decide +kernel
theorem dX6_readData_42 : decode cX6_readData 42 = .ok (.iload_n 2, 1) := by decide +kernel
theorem dX6_readData_43 : decode cX6_readData 43 = .ok (.ishl, 1) := by decide +kernel
theorem dX6_readData_44 : decode cX6_readData 44 = .ok (.ior, 1) := by decide +kernel
theorem dX6_readData_45 : decode cX6_readData 45 = .ok (.putfield 52, 3) := by decide +kernel
theorem dX6_readData_48 : decode cX6_readData 48 = .ok (.iconst 2, 1) := by decide +kernel
theorem dX6_readData_49 : decode cX6_readData 49 = .ok (.istore_n 3, 1) := by decide +kernel
theorem dX6_readData_50 : decode cX6_readData 50 = .ok (.iload_n 3, 1) := by decide +kernel
theorem dX6_readData_51 : decode cX6_readData 51 = .ok (.iconst 4, 1) := by decide +kernel
theorem dX6_readData_52 : decode cX6_readData 52 = .ok (.if_icmp .ge 42, 3) := by decide +kernel
theorem dX6_readData_55 : decode cX6_readData 55 = .ok (.aload_n 0, 1) := by decide +kernel
theorem dX6_readData_56 : decode cX6_readData 56 = .ok (.invokevirtual 67, 3) := by decide +kernel
theorem dX6_readData_59 : decode cX6_readData 59 = .ok (.aload_n 0, 1) := by decide +kernel
theorem dX6_readData_60 : decode cX6_readData 60 = .ok (.iconst 0, 1) := by decide +kernel
theorem dX6_readData_61 : decode cX6_readData 61 = .ok (.bipush 99, 2) := by decide +kernel
theorem dX6_readData_63 : decode cX6_readData 63 = .ok (.invokevirtual 151, 3) := by decide +kernel
theorem dX6_readData_66 : decode cX6_readData 66 = .ok (.istore_n 1, 1) := by decide +kernel
theorem dX6_readData_67 : decode cX6_readData 67 = .ok (.iload_n 1, 1) := by decide +kernel
theorem dX6_readData_68 : decode cX6_readData 68 = .ok (.ifCond .eq 5, 3) := by decide +kernel
theorem dX6_readData_71 : decode cX6_readData 71 = .ok (.iload_n 1, 1) := by decide +kernel
theorem dX6_readData_72 : decode cX6_readData 72 = .ok (.ireturn, 1) := by decide +kernel
theorem dX6_readData_73 : decode cX6_readData 73 = .ok (.aload_n 0, 1) := by decide +kernel
theorem dX6_readData_74 : decode cX6_readData 74 = .ok (.getfield 28, 3) := by decide +kernel
theorem dX6_readData_77 : decode cX6_readData 77 = .ok (.iload_n 2, 1) := by decide +kernel
theorem dX6_readData_78 : decode cX6_readData 78 = .ok (.invokestatic 157, 3) := by decide +kernel
theorem dX6_readData_81 : decode cX6_readData 81 = .ok (.iload_n 3, 1) := by decide +kernel
theorem dX6_readData_82 : decode cX6_readData 82 = .ok (.iadd, 1) := by decide +kernel
theorem dX6_readData_83 : decode cX6_readData 83 = .ok (.aload_n 0, 1) := by decide +kernel
theorem dX6_readData_84 : decode cX6_readData 84 = .ok (.getfield 45, 3) := by decide +kernel
theorem dX6_readData_87 : decode cX6_readData 87 = .ok (.iastore, 1) := by decide +kernel
theorem dX6_readData_88 : decode cX6_readData 88 = .ok (.iinc 3 1, 3) := by decide +kernel
theorem dX6_readData_91 : decode cX6_readData 91 = .ok (.goto (-41), 3) := by decide +kernel
theorem dX6_readData_94 : decode cX6_readData 94 = .ok (.aload_n 0, 1) := by decide +kernel
theorem dX6_readData_95 : decode cX6_readData 95 = .ok (.invokevirtual 148, 3) := by decide +kernel
theorem dX6_readData_98 : decode cX6_readData 98 = .ok (.ireturn, 1) := by decide +kernel
set_option maxRecDepth 20000 in
theorem ggX6_readDo_X6_goOn : GoodIn wsX6_readDo wsX6_goOn := goodIn_r _ [7, 8, 9, 10, 11, 12, 13, 14, 6, 15, 91, 92, 93, 94, 95, 96, 97, 98, 99, 100, 101] (by decide +kernel) (by decide +kernel)
set_option maxRecDepth 20000 in
theorem gX6_readDo_X6_goOn : GoodIn wsX6_readDo (wsV RX6 67 RX6 yX6_goOn wsX6_goOn) := goodIn_app (goodIn_of _ (by decide +kernel)) ggX6_readDo_X6_goOn
set_option maxRecDepth 20000 in
theorem ggX6_readDo_X6_readOp : GoodIn wsX6_readDo wsX6_readOp := goodIn_r _ [19, 20, 1, 21, 2, 22, 23, 24, 6, 25, 26, 27, 28, 29, 12, 8, 11, 10, 30, 31, 32, 33, 34, 35, 36, 37, 38, 39, 40, 41, 42, 43, 44, 45, 46, 47, 48, 49, 50, 51, 52, 53, 54, 55, 56, 57, 58, 59, 60, 61, 62, 63, 64, 65, 66, 67, 68, 69, 70, 71, 72, 73, 74, 75, 76, 77, 78, 3, 4, 5, 7, 9, 13, 14, 15, 79, 80, 81, 82, 83, 84, 85, 86, 91, 92, 93, 94, 95, 96, 97, 98, 99, 100, 101, 102, 103, 104, 105, 106, 107, 108, 109, 110, 111, 112, 113] (by decide +kernel) (by decide +kernel)
set_option maxRecDepth 20000 in
theorem gX6_readDo_X6_readOp : GoodIn wsX6_readDo (wsV RX6 160 RX6 yX6_readOp wsX6_readOp) := goodIn_app (goodIn_of _ (by decide +kernel)) ggX6_readDo_X6_readOp
set_option maxRecDepth 20000 in
theorem ggX6_readDo_X6_isSign : GoodIn wsX6_readDo wsX6_isSign := goodIn_r _ [90, 12, 10, 11, 91, 92, 93, 94, 95, 96, 97, 98, 99, 100, 101] (by decide +kernel) (by decide +kernel)
set_option maxRecDepth 20000 in
theorem gX6_readDo_X6_isSign : GoodIn wsX6_readDo (wsV RX6 108 RX6 yX6_isSign wsX6_isSign) := goodIn_app (goodIn_of _ (by decide +kernel)) ggX6_readDo_X6_isSign
theorem dX6_readDo_0 : decode cX6_readDo 0 = .ok (.aload_n 0, 1) := by decide +kernel
theorem dX6_readDo_1 : decode cX6_readDo 1 = .ok (.getfield 12, 3) := by decide +kernel
theorem dX6_readDo_4 : decode cX6_readDo 4 = .ok (.getfield 87, 3) := by decide +kernel
theorem dX6_readDo_7 : decode cX6_readDo 7 = .ok (.bipush 12, 2) := by decide +kernel
theorem dX6_readDo_9 : decode cX6_readDo 9 = .ok (.if_icmp .ne 5, 3) := by decide +kernel
theorem dX6_readDo_12 : decode cX6_readDo 12 = .ok (.iconst 2, 1) := by decide +kernel
theorem dX6_readDo_13 : decode cX6_readDo 13 = .ok (.ireturn, 1) := by decide +kernel
theorem dX6_readDo_14 : decode cX6_readDo 14 = .ok (.iconst 0, 1) := by decide +kernel
theorem dX6_readDo_15 : decode cX6_readDo 15 = .ok (.istore_n 1, 1) := by decide +kernel
theorem dX6_readDo_16 : decode cX6_readDo 16 = .ok (.iload_n 1, 1) := by decide +kernel
theorem dX6_readDo_17 : decode cX6_readDo 17 = .ok (.iconst 4, 1) := by decide +kernel
theorem dX6_readDo_18 : decode cX6_readDo 18 = .ok (.if_icmp .gt 64, 3) := by decide +kernel
theorem dX6_readDo_21 : decode cX6_readDo 21 = .ok (.aload_n 0, 1) := by decide +kernel
theorem dX6_readDo_22 : decode cX6_readDo 22 = .ok (.invokevirtual 67, 3) := by decide +kernel
theorem dX6_readDo_25 : decode cX6_readDo 25 = .ok (.aload_n 0, 1) := by decide +kernel
theorem dX6_readDo_26 : decode cX6_readDo 26 = .ok (.iload_n 1, 1) := by decide +kernel
theorem dX6_readDo_27 : decode cX6_readDo 27 = .ok (.invokevirtual 160, 3) := by decide +kernel
theorem dX6_readDo_30 : decode cX6_readDo 30 = .ok (.istore_n 2, 1) := by decide +kernel
theorem dX6_readDo_31 : decode cX6_readDo 31 = .ok (.iload_n 2, 1) := by decide +kernel
theorem dX6_readDo_32 : decode cX6_readDo 32 = .ok (.ifCond .eq 5, 3) := by decide +kernel
theorem dX6_readDo_35 : decode cX6_readDo 35 = .ok (.iload_n 2, 1) := by decide +kernel
theorem dX6_readDo_36 : decode cX6_readDo 36 = .ok (.ireturn, 1) := by decide +kernel
theorem dX6_readDo_37 : decode cX6_readDo 37 = .ok (.aload_n 0, 1) := by decide +kernel
theorem dX6_readDo_38 : decode cX6_readDo 38 = .ok (.invokevirtual 67, 3) := by decide +kernel
theorem dX6_readDo_41 : decode cX6_readDo 41 = .ok (.aload_n 0, 1) := by decide +kernel
theorem dX6_readDo_42 : decode cX6_readDo 42 = .ok (.bipush 59, 2) := by decide +kernel
theorem dX6_readDo_44 : decode cX6_readDo 44 = .ok (.invokevirtual 108, 3) := by decide +kernel
theorem dX6_readDo_47 : decode cX6_readDo 47 = .ok (.ifCond .eq 18, 3) := by decide +kernel
theorem dX6_readDo_50 : decode cX6_readDo 50 = .ok (.aload_n 0, 1) := by decide +kernel
theorem dX6_readDo_51 : decode cX6_readDo 51 = .ok (.getfield 12, 3) := by decide +kernel
theorem dX6_readDo_54 : decode cX6_readDo 54 = .ok (.dup, 1) := by decide +kernel
theorem dX6_readDo_55 : decode cX6_readDo 55 = .ok (.getfield 87, 3) := by decide +kernel
theorem dX6_readDo_58 : decode cX6_readDo 58 = .ok (.iconst 1, 1) := by decide +kernel
theorem dX6_readDo_59 : decode cX6_readDo 59 = .ok (.iadd, 1) := by decide +kernel
theorem dX6_readDo_60 : decode cX6_readDo 60 = .ok (.putfield 87, 3) := by decide +kernel
theorem dX6_readDo_63 : decode cX6_readDo 63 = .ok (.iconst 0, 1) := by decide +kernel
theorem dX6_readDo_64 : decode cX6_readDo 64 = .ok (.ireturn, 1) := by decide +kernel
theorem dX6_readDo_65 : decode cX6_readDo 65 = .ok (.aload_n 0, 1) := by decide +kernel
theorem dX6_readDo_66 : decode cX6_readDo 66 = .ok (.bipush 44, 2) := by decide +kernel
theorem dX6_readDo_68 : decode cX6_readDo 68 = .ok (.invokevirtual 108, 3) := by decide +kernel
theorem dX6_readDo_71 : decode cX6_readDo 71 = .ok (.ifCond .ne 5, 3) := by decide +kernel
theorem dX6_readDo_74 : decode cX6_readDo 74 = .ok (.iconst 1, 1) := by decide +kernel
theorem dX6_readDo_75 : decode cX6_readDo 75 = .ok (.ireturn, 1) := by decide +kernel
theorem dX6_readDo_76 : decode cX6_readDo 76 = .ok (.iinc 1 1, 3) := by decide +kernel
theorem dX6_readDo_79 : decode cX6_readDo 79 = .ok (.goto (-63), 3) := by decide +kernel
theorem dX6_readDo_82 : decode cX6_readDo 82 = .ok (.iconst 1, 1) := by decide +kernel
theorem dX6_readDo_83 : decode cX6_readDo 83 = .ok (.ireturn, 1) := by decide +kernel
set_option maxRecDepth 20000 in
theorem ggX6_readOp_X6_opTold : GoodIn wsX6_readOp wsX6_opTold := goodIn_r _ [9, 10, 11, 12, 8, 13, 14, 15, 16, 17, 18, 19, 20, 21, 22, 23, 24, 25, 26, 27, 28, 29, 30, 31, 32, 33, 34, 35, 36, 37, 38, 39, 40, 41, 42, 43, 44, 45, 46, 47, 48, 49, 50, 51, 52, 53, 54, 55, 56, 57, 58, 59, 60, 61, 62, 63, 64, 65, 66, 83, 84, 85, 86, 87, 88, 89, 90, 91, 92, 93] (by decide +kernel) (by decide +kernel)
set_option maxRecDepth 20000 in
theorem gX6_readOp_X6_opTold : GoodIn wsX6_readOp (wsV RX6 163 RX6 yX6_opTold wsX6_opTold) := goodIn_app (goodIn_of _ (by decide +kernel)) ggX6_readOp_X6_opTold
set_option maxRecDepth 20000 in
theorem ggX6_readOp_X6_goOn : GoodIn wsX6_readOp wsX6_goOn := goodIn_r _ [70, 15, 71, 17, 16, 14, 72, 73, 8, 74, 83, 84, 85, 86, 87, 88, 89, 90, 91, 92, 93] (by decide +kernel) (by decide +kernel)
set_option maxRecDepth 20000 in
theorem gX6_readOp_X6_goOn : GoodIn wsX6_readOp (wsV RX6 67 RX6 yX6_goOn wsX6_goOn) := goodIn_app (goodIn_of _ (by decide +kernel)) ggX6_readOp_X6_goOn
set_option maxRecDepth 20000 in
theorem ggX6_readOp_X6_judgeNumber : GoodIn wsX6_readOp wsX6_judgeNumber := goodIn_r _ [78, 14, 15, 16, 1, 17, 83, 84, 85, 86, 87, 88, 89, 90, 91, 92, 93] (by decide +kernel) (by decide +kernel)
set_option maxRecDepth 20000 in
theorem gX6_readOp_X6_judgeNumber : GoodIn wsX6_readOp (wsV RX6 151 RX6 yX6_judgeNumber wsX6_judgeNumber) := goodIn_app (goodIn_of _ (by decide +kernel)) ggX6_readOp_X6_judgeNumber
set_option maxRecDepth 20000 in
theorem ggX6_readOp_X11_packOp : GoodIn wsX6_readOp wsX11_packOp := goodIn_r _ [81, 82] (by decide +kernel) (by decide +kernel)
set_option maxRecDepth 20000 in
theorem gX6_readOp_X11_packOp_n178 : GoodIn wsX6_readOp (wsX11_packOp) := ggX6_readOp_X11_packOp
theorem dX6_readOp_0 : decode cX6_readOp 0 = .ok (.aload_n 0, 1) := by decide +kernel
theorem dX6_readOp_1 : decode cX6_readOp 1 = .ok (.invokevirtual 163, 3) := by decide +kernel
theorem dX6_readOp_4 : decode cX6_readOp 4 = .ok (.istore_n 2, 1) := by decide +kernel
theorem dX6_readOp_5 : decode cX6_readOp 5 = .ok (.iload_n 2, 1) := by decide +kernel
theorem dX6_readOp_6 : decode cX6_readOp 6 = .ok (.iconst (-1), 1) := by decide +kernel
theorem dX6_readOp_7 : decode cX6_readOp 7 = .ok (.if_icmp .ne 5, 3) := by decide +kernel
theorem dX6_readOp_10 : decode cX6_readOp 10 = .ok (.iconst 1, 1) := by decide +kernel
theorem dX6_readOp_11 : decode cX6_readOp 11 = .ok (.ireturn, 1) := by decide +kernel
theorem dX6_readOp_12 : decode cX6_readOp 12 = .ok (.iload_n 1, 1) := by decide +kernel
theorem dX6_readOp_13 : decode cX6_readOp 13 = .ok (.iconst 4, 1) := by decide +kernel
theorem dX6_readOp_14 : decode cX6_readOp 14 = .ok (.if_icmp .lt 5, 3) := by decide +kernel
theorem dX6_readOp_17 : decode cX6_readOp 17 = .ok (.iconst 2, 1) := by decide +kernel
theorem dX6_readOp_18 : decode cX6_readOp 18 = .ok (.ireturn, 1) := by decide +kernel
theorem dX6_readOp_19 : decode cX6_readOp 19 = .ok (.iconst 0, 1) := by decide +kernel
theorem dX6_readOp_20 : decode cX6_readOp 20 = .ok (.istore_n 3, 1) := by decide +kernel
theorem dX6_readOp_21 : decode cX6_readOp 21 = .ok (.iconst 0, 1) := by decide +kernel
theorem dX6_readOp_22 : decode cX6_readOp 22 = .ok (.istore 4, 2) := by decide +kernel
theorem dX6_readOp_24 : decode cX6_readOp 24 = .ok (.getstatic 166, 3) := by decide +kernel
theorem dX6_readOp_27 : decode cX6_readOp 27 = .ok (.iload_n 2, 1) := by decide +kernel
theorem dX6_readOp_28 : decode cX6_readOp 28 = .ok (.iaload, 1) := by decide +kernel
theorem dX6_readOp_29 : decode cX6_readOp 29 = .ok (.ifCond .le 28, 3) := by decide +kernel
theorem dX6_readOp_32 : decode cX6_readOp 32 = .ok (.aload_n 0, 1) := by decide +kernel
theorem dX6_readOp_33 : decode cX6_readOp 33 = .ok (.invokevirtual 67, 3) := by decide +kernel
theorem dX6_readOp_36 : decode cX6_readOp 36 = .ok (.aload_n 0, 1) := by decide +kernel
theorem dX6_readOp_37 : decode cX6_readOp 37 = .ok (.getstatic 169, 3) := by decide +kernel
theorem dX6_readOp_40 : decode cX6_readOp 40 = .ok (.iload_n 2, 1) := by decide +kernel
theorem dX6_readOp_41 : decode cX6_readOp 41 = .ok (.iaload, 1) := by decide +kernel
theorem dX6_readOp_42 : decode cX6_readOp 42 = .ok (.getstatic 172, 3) := by decide +kernel
theorem dX6_readOp_45 : decode cX6_readOp 45 = .ok (.iload_n 2, 1) := by decide +kernel
theorem dX6_readOp_46 : decode cX6_readOp 46 = .ok (.iaload, 1) := by decide +kernel
theorem dX6_readOp_47 : decode cX6_readOp 47 = .ok (.invokevirtual 151, 3) := by decide +kernel
theorem dX6_readOp_50 : decode cX6_readOp 50 = .ok (.istore_n 3, 1) := by decide +kernel
theorem dX6_readOp_51 : decode cX6_readOp 51 = .ok (.aload_n 0, 1) := by decide +kernel
theorem dX6_readOp_52 : decode cX6_readOp 52 = .ok (.getfield 45, 3) := by decide +kernel
theorem dX6_readOp_55 : decode cX6_readOp 55 = .ok (.istore 4, 2) := by decide +kernel
theorem dX6_readOp_57 : decode cX6_readOp 57 = .ok (.getstatic 166, 3) := by decide +kernel
theorem dX6_readOp_60 : decode cX6_readOp 60 = .ok (.iload_n 2, 1) := by decide +kernel
theorem dX6_readOp_61 : decode cX6_readOp 61 = .ok (.iaload, 1) := by decide +kernel
theorem dX6_readOp_62 : decode cX6_readOp 62 = .ok (.iconst 1, 1) := by decide +kernel
theorem dX6_readOp_63 : decode cX6_readOp 63 = .ok (.if_icmp .le 22, 3) := by decide +kernel
theorem dX6_readOp_66 : decode cX6_readOp 66 = .ok (.iload_n 3, 1) := by decide +kernel
theorem dX6_readOp_67 : decode cX6_readOp 67 = .ok (.ifCond .ne 18, 3) := by decide +kernel
theorem dX6_readOp_70 : decode cX6_readOp 70 = .ok (.aload_n 0, 1) := by decide +kernel
theorem dX6_readOp_71 : decode cX6_readOp 71 = .ok (.invokevirtual 67, 3) := by decide +kernel
theorem dX6_readOp_74 : decode cX6_readOp 74 = .ok (.aload_n 0, 1) := by decide +kernel
theorem dX6_readOp_75 : decode cX6_readOp 75 = .ok (.iconst 0, 1) := by decide +kernel
theorem dX6_readOp_76 : decode cX6_readOp 76 = .ok (.getstatic 175, 3) := by decide +kernel
theorem dX6_readOp_79 : decode cX6_readOp 79 = .ok (.iload_n 2, 1) := by decide +kernel
theorem dX6_readOp_80 : decode cX6_readOp 80 = .ok (.iaload, 1) := by decide +kernel
theorem dX6_readOp_81 : decode cX6_readOp 81 = .ok (.invokevirtual 151, 3) := by decide +kernel
theorem dX6_readOp_84 : decode cX6_readOp 84 = .ok (.istore_n 3, 1) := by decide +kernel
theorem dX6_readOp_85 : decode cX6_readOp 85 = .ok (.iload_n 3, 1) := by decide +kernel
theorem dX6_readOp_86 : decode cX6_readOp 86 = .ok (.ifCond .eq 5, 3) := by decide +kernel
theorem dX6_readOp_89 : decode cX6_readOp 89 = .ok (.iload_n 3, 1) := by decide +kernel
theorem dX6_readOp_90 : decode cX6_readOp 90 = .ok (.ireturn, 1) := by decide +kernel
theorem dX6_readOp_91 : decode cX6_readOp 91 = .ok (.iload_n 2, 1) := by decide +kernel
theorem dX6_readOp_92 : decode cX6_readOp 92 = .ok (.iconst 2, 1) := by decide +kernel
theorem dX6_readOp_93 : decode cX6_readOp 93 = .ok (.if_icmp .ne 14, 3) := by decide +kernel
theorem dX6_readOp_96 : decode cX6_readOp 96 = .ok (.iload 4, 2) := by decide +kernel
theorem dX6_readOp_98 : decode cX6_readOp 98 = .ok (.aload_n 0, 1) := by decide +kernel
theorem dX6_readOp_99 : decode cX6_readOp 99 = .ok (.getfield 45, 3) := by decide +kernel
theorem dX6_readOp_102 : decode cX6_readOp 102 = .ok (.if_icmp .ne 5, 3) := by decide +kernel
theorem dX6_readOp_105 : decode cX6_readOp 105 = .ok (.iconst 3, 1) := by decide +kernel
theorem dX6_readOp_106 : decode cX6_readOp 106 = .ok (.ireturn, 1) := by decide +kernel
theorem dX6_readOp_107 : decode cX6_readOp 107 = .ok (.aload_n 0, 1) := by decide +kernel
theorem dX6_readOp_108 : decode cX6_readOp 108 = .ok (.getfield 12, 3) := by decide +kernel
theorem dX6_readOp_111 : decode cX6_readOp 111 = .ok (.getfield 84, 3) := by decide +kernel
theorem dX6_readOp_114 : decode cX6_readOp 114 = .ok (.aload_n 0, 1) := by decide +kernel
theorem dX6_readOp_115 : decode cX6_readOp 115 = .ok (.getfield 12, 3) := by decide +kernel
theorem dX6_readOp_118 : decode cX6_readOp 118 = .ok (.getfield 87, 3) := by decide +kernel
theorem dX6_readOp_121 : decode cX6_readOp 121 = .ok (.iconst 4, 1) := by decide +kernel
theorem dX6_readOp_122 : decode cX6_readOp 122 = .ok (.imul, 1) := by decide +kernel
theorem dX6_readOp_123 : decode cX6_readOp 123 = .ok (.iload_n 1, 1) := by decide +kernel
theorem dX6_readOp_124 : decode cX6_readOp 124 = .ok (.iadd, 1) := by decide +kernel
theorem dX6_readOp_125 : decode cX6_readOp 125 = .ok (.iload_n 2, 1) := by decide +kernel
theorem dX6_readOp_126 : decode cX6_readOp 126 = .ok (.iload 4, 2) := by decide +kernel
theorem dX6_readOp_128 : decode cX6_readOp 128 = .ok (.aload_n 0, 1) := by decide +kernel
theorem dX6_readOp_129 : decode cX6_readOp 129 = .ok (.getfield 45, 3) := by decide +kernel
theorem dX6_readOp_132 : decode cX6_readOp 132 = .ok (.invokestatic 178, 3) := by decide +kernel
theorem dX6_readOp_135 : decode cX6_readOp 135 = .ok (.iastore, 1) := by decide +kernel
theorem dX6_readOp_136 : decode cX6_readOp 136 = .ok (.iconst 0, 1) := by decide +kernel
theorem dX6_readOp_137 : decode cX6_readOp 137 = .ok (.ireturn, 1) := by decide +kernel
set_option maxRecDepth 20000 in
theorem ggX6_opTold_X6_isLetters : GoodIn wsX6_opTold wsX6_isLetters := goodIn_r _ [5, 6, 7, 8, 9, 10, 11, 12, 13, 14, 15, 16, 17, 18, 19, 20, 21, 22, 23, 24, 25, 26, 27, 28, 29, 30, 31, 32, 33, 34, 35, 36, 37, 38, 39, 40, 41, 42, 43, 44, 45, 46, 47, 48, 49, 50, 51, 52, 53, 54, 55, 56, 57, 58, 59, 60, 61, 62, 63, 64, 65, 66, 67, 68, 69] (by decide +kernel) (by decide +kernel)
set_option maxRecDepth 20000 in
theorem gX6_opTold_X6_isLetters : GoodIn wsX6_opTold (wsV RX6 114 RX6 yX6_isLetters wsX6_isLetters) := goodIn_app (goodIn_of _ (by decide +kernel)) ggX6_opTold_X6_isLetters
theorem dX6_opTold_0 : decode cX6_opTold 0 = .ok (.aload_n 0, 1) := by decide +kernel
theorem dX6_opTold_1 : decode cX6_opTold 1 = .ok (.ldc 182, 2) := by decide +kernel
theorem dX6_opTold_3 : decode cX6_opTold 3 = .ok (.invokevirtual 114, 3) := by decide +kernel
theorem dX6_opTold_6 : decode cX6_opTold 6 = .ok (.ifCond .eq 5, 3) := by decide +kernel
theorem dX6_opTold_9 : decode cX6_opTold 9 = .ok (.iconst 0, 1) := by decide +kernel
theorem dX6_opTold_10 : decode cX6_opTold 10 = .ok (.ireturn, 1) := by decide +kernel
theorem dX6_opTold_11 : decode cX6_opTold 11 = .ok (.aload_n 0, 1) := by decide +kernel
theorem dX6_opTold_12 : decode cX6_opTold 12 = .ok (.ldc 184, 2) := by decide +kernel
theorem dX6_opTold_14 : decode cX6_opTold 14 = .ok (.invokevirtual 114, 3) := by decide +kernel
theorem dX6_opTold_17 : decode cX6_opTold 17 = .ok (.ifCond .eq 5, 3) := by decide +kernel
theorem dX6_opTold_20 : decode cX6_opTold 20 = .ok (.iconst 1, 1) := by decide +kernel
theorem dX6_opTold_21 : decode cX6_opTold 21 = .ok (.ireturn, 1) := by decide +kernel
theorem dX6_opTold_22 : decode cX6_opTold 22 = .ok (.aload_n 0, 1) := by decide +kernel
theorem dX6_opTold_23 : decode cX6_opTold 23 = .ok (.ldc 186, 2) := by decide +kernel
theorem dX6_opTold_25 : decode cX6_opTold 25 = .ok (.invokevirtual 114, 3) := by decide +kernel
theorem dX6_opTold_28 : decode cX6_opTold 28 = .ok (.ifCond .eq 5, 3) := by decide +kernel
theorem dX6_opTold_31 : decode cX6_opTold 31 = .ok (.iconst 2, 1) := by decide +kernel
theorem dX6_opTold_32 : decode cX6_opTold 32 = .ok (.ireturn, 1) := by decide +kernel
theorem dX6_opTold_33 : decode cX6_opTold 33 = .ok (.aload_n 0, 1) := by decide +kernel
theorem dX6_opTold_34 : decode cX6_opTold 34 = .ok (.ldc 188, 2) := by decide +kernel
theorem dX6_opTold_36 : decode cX6_opTold 36 = .ok (.invokevirtual 114, 3) := by decide +kernel
theorem dX6_opTold_39 : decode cX6_opTold 39 = .ok (.ifCond .eq 5, 3) := by decide +kernel
theorem dX6_opTold_42 : decode cX6_opTold 42 = .ok (.iconst 3, 1) := by decide +kernel
theorem dX6_opTold_43 : decode cX6_opTold 43 = .ok (.ireturn, 1) := by decide +kernel
theorem dX6_opTold_44 : decode cX6_opTold 44 = .ok (.aload_n 0, 1) := by decide +kernel
theorem dX6_opTold_45 : decode cX6_opTold 45 = .ok (.ldc 190, 2) := by decide +kernel
theorem dX6_opTold_47 : decode cX6_opTold 47 = .ok (.invokevirtual 114, 3) := by decide +kernel
theorem dX6_opTold_50 : decode cX6_opTold 50 = .ok (.ifCond .eq 7, 3) := by decide +kernel
theorem dX6_opTold_53 : decode cX6_opTold 53 = .ok (.iconst 4, 1) := by decide +kernel
theorem dX6_opTold_54 : decode cX6_opTold 54 = .ok (.goto 4, 3) := by decide +kernel
theorem dX6_opTold_57 : decode cX6_opTold 57 = .ok (.iconst (-1), 1) := by decide +kernel
theorem dX6_opTold_58 : decode cX6_opTold 58 = .ok (.ireturn, 1) := by decide +kernel
theorem dX7_init_0 : decode cX7_init 0 = .ok (.aload_n 0, 1) := by decide +kernel
theorem dX7_init_1 : decode cX7_init 1 = .ok (.invokespecial 3, 3) := by decide +kernel
theorem dX7_init_4 : decode cX7_init 4 = .ok (.aload_n 0, 1) := by decide +kernel
theorem dX7_init_5 : decode cX7_init 5 = .ok (.iconst 0, 1) := by decide +kernel
theorem dX7_init_6 : decode cX7_init 6 = .ok (.putfield 9, 3) := by decide +kernel
theorem dX7_init_9 : decode cX7_init 9 = .ok (.aload_n 0, 1) := by decide +kernel
theorem dX7_init_10 : decode cX7_init 10 = .ok (.iconst 0, 1) := by decide +kernel
theorem dX7_init_11 : decode cX7_init 11 = .ok (.putfield 15, 3) := by decide +kernel
theorem dX7_init_14 : decode cX7_init 14 = .ok (.aload_n 0, 1) := by decide +kernel
theorem dX7_init_15 : decode cX7_init 15 = .ok (.iconst 0, 1) := by decide +kernel
theorem dX7_init_16 : decode cX7_init 16 = .ok (.putfield 18, 3) := by decide +kernel
theorem dX7_init_19 : decode cX7_init 19 = .ok (.aload_n 0, 1) := by decide +kernel
theorem dX7_init_20 : decode cX7_init 20 = .ok (.iconst 0, 1) := by decide +kernel
theorem dX7_init_21 : decode cX7_init 21 = .ok (.putfield 21, 3) := by decide +kernel
theorem dX7_init_24 : decode cX7_init 24 = .ok (.aload_n 0, 1) := by decide +kernel
theorem dX7_init_25 : decode cX7_init 25 = .ok (.iconst 0, 1) := by decide +kernel
theorem dX7_init_26 : decode cX7_init 26 = .ok (.putfield 24, 3) := by decide +kernel
theorem dX7_init_29 : decode cX7_init 29 = .ok (.return_, 1) := by decide +kernel
set_option maxRecDepth 20000 in
theorem ggX7_survey_X11_blockAddress : GoodIn wsX7_survey wsX11_blockAddress := goodIn_r _ [8] (by decide +kernel) (by decide +kernel)
set_option maxRecDepth 20000 in
theorem gX7_survey_X11_blockAddress_n27 : GoodIn wsX7_survey (wsX11_blockAddress) := ggX7_survey_X11_blockAddress
set_option maxRecDepth 20000 in
theorem ggX7_survey_X7_follow : GoodIn wsX7_survey wsX7_follow := goodIn_r _ [13, 1, 3, 4, 2, 14, 7, 15, 16, 17, 18, 19, 20] (by decide +kernel) (by decide +kernel)
set_option maxRecDepth 20000 in
theorem gX7_survey_X7_follow : GoodIn wsX7_survey (wsV RX7 31 RX7 yX7_follow wsX7_follow) := goodIn_app (goodIn_of _ (by decide +kernel)) ggX7_survey_X7_follow
theorem dX7_survey_0 : decode cX7_survey 0 = .ok (.aload_n 0, 1) := by decide +kernel
theorem dX7_survey_1 : decode cX7_survey 1 = .ok (.iconst 0, 1) := by decide +kernel
theorem dX7_survey_2 : decode cX7_survey 2 = .ok (.putfield 18, 3) := by decide +kernel
theorem dX7_survey_5 : decode cX7_survey 5 = .ok (.iconst 0, 1) := by decide +kernel
theorem dX7_survey_6 : decode cX7_survey 6 = .ok (.istore_n 2, 1) := by decide +kernel
theorem dX7_survey_7 : decode cX7_survey 7 = .ok (.iload_n 2, 1) := by decide +kernel
theorem dX7_survey_8 : decode cX7_survey 8 = .ok (.bipush 10, 2) := by decide +kernel
theorem dX7_survey_10 : decode cX7_survey 10 = .ok (.if_icmp .ge 35, 3) := by decide +kernel
theorem dX7_survey_13 : decode cX7_survey 13 = .ok (.aload_n 0, 1) := by decide +kernel
theorem dX7_survey_14 : decode cX7_survey 14 = .ok (.dup, 1) := by decide +kernel
theorem dX7_survey_15 : decode cX7_survey 15 = .ok (.getfield 18, 3) := by decide +kernel
theorem dX7_survey_18 : decode cX7_survey 18 = .ok (.aload_n 1, 1) := by decide +kernel
theorem dX7_survey_19 : decode cX7_survey 19 = .ok (.iload_n 2, 1) := by decide +kernel
theorem dX7_survey_20 : decode cX7_survey 20 = .ok (.invokestatic 27, 3) := by decide +kernel
theorem dX7_survey_23 : decode cX7_survey 23 = .ok (.iaload, 1) := by decide +kernel
theorem dX7_survey_24 : decode cX7_survey 24 = .ok (.iconst 1, 1) := by decide +kernel
theorem dX7_survey_25 : decode cX7_survey 25 = .ok (.if_icmp .ne 9, 3) := by decide +kernel
theorem dX7_survey_28 : decode cX7_survey 28 = .ok (.iconst 1, 1) := by decide +kernel
theorem dX7_survey_29 : decode cX7_survey 29 = .ok (.iload_n 2, 1) := by decide +kernel
theorem dX7_survey_30 : decode cX7_survey 30 = .ok (.ishl, 1) := by decide +kernel
theorem dX7_survey_31 : decode cX7_survey 31 = .ok (.goto 4, 3) := by decide +kernel
theorem dX7_survey_34 : decode cX7_survey 34 = .ok (.iconst 0, 1) := by decide +kernel
theorem dX7_survey_35 : decode cX7_survey 35 = .ok (.ior, 1) := by decide +kernel
theorem dX7_survey_36 : decode cX7_survey 36 = .ok (.putfield 18, 3) := by decide +kernel
theorem dX7_survey_39 : decode cX7_survey 39 = .ok (.iinc 2 1, 3) := by decide +kernel
theorem dX7_survey_42 : decode cX7_survey 42 = .ok (.goto (-35), 3) := by decide +kernel
theorem dX7_survey_45 : decode cX7_survey 45 = .ok (.aload_n 0, 1) := by decide +kernel
theorem dX7_survey_46 : decode cX7_survey 46 = .ok (.iconst 0, 1) := by decide +kernel
theorem dX7_survey_47 : decode cX7_survey 47 = .ok (.putfield 9, 3) := by decide +kernel
theorem dX7_survey_50 : decode cX7_survey 50 = .ok (.aload_n 0, 1) := by decide +kernel
theorem dX7_survey_51 : decode cX7_survey 51 = .ok (.iconst 0, 1) := by decide +kernel
theorem dX7_survey_52 : decode cX7_survey 52 = .ok (.putfield 21, 3) := by decide +kernel
theorem dX7_survey_55 : decode cX7_survey 55 = .ok (.aload_n 0, 1) := by decide +kernel
theorem dX7_survey_56 : decode cX7_survey 56 = .ok (.iconst 0, 1) := by decide +kernel
theorem dX7_survey_57 : decode cX7_survey 57 = .ok (.putfield 24, 3) := by decide +kernel
theorem dX7_survey_60 : decode cX7_survey 60 = .ok (.iconst 0, 1) := by decide +kernel
theorem dX7_survey_61 : decode cX7_survey 61 = .ok (.istore_n 2, 1) := by decide +kernel
theorem dX7_survey_62 : decode cX7_survey 62 = .ok (.iload_n 2, 1) := by decide +kernel
theorem dX7_survey_63 : decode cX7_survey 63 = .ok (.iconst 4, 1) := by decide +kernel
theorem dX7_survey_64 : decode cX7_survey 64 = .ok (.if_icmp .ge 15, 3) := by decide +kernel
theorem dX7_survey_67 : decode cX7_survey 67 = .ok (.aload_n 0, 1) := by decide +kernel
theorem dX7_survey_68 : decode cX7_survey 68 = .ok (.aload_n 1, 1) := by decide +kernel
theorem dX7_survey_69 : decode cX7_survey 69 = .ok (.iload_n 2, 1) := by decide +kernel
theorem dX7_survey_70 : decode cX7_survey 70 = .ok (.invokevirtual 31, 3) := by decide +kernel
theorem dX7_survey_73 : decode cX7_survey 73 = .ok (.iinc 2 1, 3) := by decide +kernel
theorem dX7_survey_76 : decode cX7_survey 76 = .ok (.goto (-14), 3) := by decide +kernel
theorem dX7_survey_79 : decode cX7_survey 79 = .ok (.aload_n 0, 1) := by decide +kernel
theorem dX7_survey_80 : decode cX7_survey 80 = .ok (.aload_n 0, 1) := by decide +kernel
theorem dX7_survey_81 : decode cX7_survey 81 = .ok (.getfield 18, 3) := by decide +kernel
theorem dX7_survey_84 : decode cX7_survey 84 = .ok (.aload_n 0, 1) := by decide +kernel
theorem dX7_survey_85 : decode cX7_survey 85 = .ok (.getfield 9, 3) := by decide +kernel
theorem dX7_survey_88 : decode cX7_survey 88 = .ok (.iconst (-1), 1) := by decide +kernel
theorem dX7_survey_89 : decode cX7_survey 89 = .ok (.ixor, 1) := by decide +kernel
theorem dX7_survey_90 : decode cX7_survey 90 = .ok (.iand, 1) := by decide +kernel
theorem dX7_survey_91 : decode cX7_survey 91 = .ok (.putfield 15, 3) := by decide +kernel
theorem dX7_survey_94 : decode cX7_survey 94 = .ok (.return_, 1) := by decide +kernel
set_option maxRecDepth 20000 in
theorem ggX7_follow_X11_isBlockAddress : GoodIn wsX7_follow wsX11_isBlockAddress := goodIn_r _ [7] (by decide +kernel) (by decide +kernel)
set_option maxRecDepth 20000 in
theorem gX7_follow_X11_isBlockAddress_n35 : GoodIn wsX7_follow (wsX11_isBlockAddress) := ggX7_follow_X11_isBlockAddress
theorem dX7_follow_0 : decode cX7_follow 0 = .ok (.iconst 0, 1) := by decide +kernel
theorem dX7_follow_1 : decode cX7_follow 1 = .ok (.istore_n 3, 1) := by decide +kernel
theorem dX7_follow_2 : decode cX7_follow 2 = .ok (.aload_n 1, 1) := by decide +kernel
theorem dX7_follow_3 : decode cX7_follow 3 = .ok (.bipush 20, 2) := by decide +kernel
theorem dX7_follow_5 : decode cX7_follow 5 = .ok (.iload_n 2, 1) := by decide +kernel
theorem dX7_follow_6 : decode cX7_follow 6 = .ok (.iadd, 1) := by decide +kernel
theorem dX7_follow_7 : decode cX7_follow 7 = .ok (.iaload, 1) := by decide +kernel
theorem dX7_follow_8 : decode cX7_follow 8 = .ok (.istore 4, 2) := by decide +kernel
theorem dX7_follow_10 : decode cX7_follow 10 = .ok (.iconst 0, 1) := by decide +kernel
theorem dX7_follow_11 : decode cX7_follow 11 = .ok (.istore 5, 2) := by decide +kernel
theorem dX7_follow_13 : decode cX7_follow 13 = .ok (.iload 5, 2) := by decide +kernel
theorem dX7_follow_15 : decode cX7_follow 15 = .ok (.bipush 10, 2) := by decide +kernel
theorem dX7_follow_17 : decode cX7_follow 17 = .ok (.if_icmp .gt 97, 3) := by decide +kernel
theorem dX7_follow_20 : decode cX7_follow 20 = .ok (.iload 4, 2) := by decide +kernel
theorem dX7_follow_22 : decode cX7_follow 22 = .ok (.ifCond .eq 92, 3) := by decide +kernel
theorem dX7_follow_25 : decode cX7_follow 25 = .ok (.iload 4, 2) := by decide +kernel
theorem dX7_follow_27 : decode cX7_follow 27 = .ok (.invokestatic 35, 3) := by decide +kernel
theorem dX7_follow_30 : decode cX7_follow 30 = .ok (.ifCond .eq 15, 3) := by decide +kernel
theorem dX7_follow_33 : decode cX7_follow 33 = .ok (.iconst 1, 1) := by decide +kernel
theorem dX7_follow_34 : decode cX7_follow 34 = .ok (.iload 4, 2) := by decide +kernel
theorem dX7_follow_36 : decode cX7_follow 36 = .ok (.bipush 24, 2) := by decide +kernel
theorem dX7_follow_38 : decode cX7_follow 38 = .ok (.isub, 1) := by decide +kernel
theorem dX7_follow_39 : decode cX7_follow 39 = .ok (.iconst 4, 1) := by decide +kernel
theorem dX7_follow_40 : decode cX7_follow 40 = .ok (.idiv, 1) := by decide +kernel
theorem dX7_follow_41 : decode cX7_follow 41 = .ok (.ishl, 1) := by decide +kernel
theorem dX7_follow_42 : decode cX7_follow 42 = .ok (.goto 4, 3) := by decide +kernel
theorem dX7_follow_45 : decode cX7_follow 45 = .ok (.iconst 0, 1) := by decide +kernel
theorem dX7_follow_46 : decode cX7_follow 46 = .ok (.istore 6, 2) := by decide +kernel
theorem dX7_follow_48 : decode cX7_follow 48 = .ok (.aload_n 0, 1) := by decide +kernel
theorem dX7_follow_49 : decode cX7_follow 49 = .ok (.getfield 18, 3) := by decide +kernel
theorem dX7_follow_52 : decode cX7_follow 52 = .ok (.iload 6, 2) := by decide +kernel
theorem dX7_follow_54 : decode cX7_follow 54 = .ok (.iand, 1) := by decide +kernel
theorem dX7_follow_55 : decode cX7_follow 55 = .ok (.ifCond .ne 18, 3) := by decide +kernel
theorem dX7_follow_58 : decode cX7_follow 58 = .ok (.aload_n 0, 1) := by decide +kernel
theorem dX7_follow_59 : decode cX7_follow 59 = .ok (.dup, 1) := by decide +kernel
theorem dX7_follow_60 : decode cX7_follow 60 = .ok (.getfield 21, 3) := by decide +kernel
theorem dX7_follow_63 : decode cX7_follow 63 = .ok (.iconst 1, 1) := by decide +kernel
theorem dX7_follow_64 : decode cX7_follow 64 = .ok (.iload_n 2, 1) := by decide +kernel
theorem dX7_follow_65 : decode cX7_follow 65 = .ok (.ishl, 1) := by decide +kernel
theorem dX7_follow_66 : decode cX7_follow 66 = .ok (.ior, 1) := by decide +kernel
theorem dX7_follow_67 : decode cX7_follow 67 = .ok (.putfield 21, 3) := by decide +kernel
theorem dX7_follow_70 : decode cX7_follow 70 = .ok (.goto 44, 3) := by decide +kernel
theorem dX7_follow_73 : decode cX7_follow 73 = .ok (.iload_n 3, 1) := by decide +kernel
theorem dX7_follow_74 : decode cX7_follow 74 = .ok (.iload 6, 2) := by decide +kernel
theorem dX7_follow_76 : decode cX7_follow 76 = .ok (.iand, 1) := by decide +kernel
theorem dX7_follow_77 : decode cX7_follow 77 = .ok (.ifCond .eq 18, 3) := by decide +kernel
theorem dX7_follow_80 : decode cX7_follow 80 = .ok (.aload_n 0, 1) := by decide +kernel
theorem dX7_follow_81 : decode cX7_follow 81 = .ok (.dup, 1) := by decide +kernel
theorem dX7_follow_82 : decode cX7_follow 82 = .ok (.getfield 24, 3) := by decide +kernel
theorem dX7_follow_85 : decode cX7_follow 85 = .ok (.iconst 1, 1) := by decide +kernel
theorem dX7_follow_86 : decode cX7_follow 86 = .ok (.iload_n 2, 1) := by decide +kernel
theorem dX7_follow_87 : decode cX7_follow 87 = .ok (.ishl, 1) := by decide +kernel
theorem dX7_follow_88 : decode cX7_follow 88 = .ok (.ior, 1) := by decide +kernel
theorem dX7_follow_89 : decode cX7_follow 89 = .ok (.putfield 24, 3) := by decide +kernel
theorem dX7_follow_92 : decode cX7_follow 92 = .ok (.goto 22, 3) := by decide +kernel
theorem dX7_follow_95 : decode cX7_follow 95 = .ok (.iload_n 3, 1) := by decide +kernel
theorem dX7_follow_96 : decode cX7_follow 96 = .ok (.iload 6, 2) := by decide +kernel
theorem dX7_follow_98 : decode cX7_follow 98 = .ok (.ior, 1) := by decide +kernel
theorem dX7_follow_99 : decode cX7_follow 99 = .ok (.istore_n 3, 1) := by decide +kernel
theorem dX7_follow_100 : decode cX7_follow 100 = .ok (.aload_n 1, 1) := by decide +kernel
theorem dX7_follow_101 : decode cX7_follow 101 = .ok (.iload 4, 2) := by decide +kernel
theorem dX7_follow_103 : decode cX7_follow 103 = .ok (.iconst 1, 1) := by decide +kernel
theorem dX7_follow_104 : decode cX7_follow 104 = .ok (.iadd, 1) := by decide +kernel
theorem dX7_follow_105 : decode cX7_follow 105 = .ok (.iaload, 1) := by decide +kernel
theorem dX7_follow_106 : decode cX7_follow 106 = .ok (.istore 4, 2) := by decide +kernel
theorem dX7_follow_108 : decode cX7_follow 108 = .ok (.iinc 5 1, 3) := by decide +kernel
theorem dX7_follow_111 : decode cX7_follow 111 = .ok (.goto (-98), 3) := by decide +kernel
theorem dX7_follow_114 : decode cX7_follow 114 = .ok (.aload_n 0, 1) := by decide +kernel
theorem dX7_follow_115 : decode cX7_follow 115 = .ok (.dup, 1) := by decide +kernel
theorem dX7_follow_116 : decode cX7_follow 116 = .ok (.getfield 9, 3) := by decide +kernel
theorem dX7_follow_119 : decode cX7_follow 119 = .ok (.iload_n 3, 1) := by decide +kernel
theorem dX7_follow_120 : decode cX7_follow 120 = .ok (.ior, 1) := by decide +kernel
theorem dX7_follow_121 : decode cX7_follow 121 = .ok (.putfield 9, 3) := by decide +kernel
theorem dX7_follow_124 : decode cX7_follow 124 = .ok (.return_, 1) := by decide +kernel
theorem dX7_answer_0 : decode cX7_answer 0 = .ok (.iload_n 1, 1) := by decide +kernel
theorem dX7_answer_1 : decode cX7_answer 1 = .ok (.tableswitch 51 0 3 #[31, 36, 41, 46], 31) := by decide +kernel
theorem dX7_answer_32 : decode cX7_answer 32 = .ok (.aload_n 0, 1) := by decide +kernel
theorem dX7_answer_33 : decode cX7_answer 33 = .ok (.getfield 9, 3) := by decide +kernel
theorem dX7_answer_36 : decode cX7_answer 36 = .ok (.ireturn, 1) := by decide +kernel
theorem dX7_answer_37 : decode cX7_answer 37 = .ok (.aload_n 0, 1) := by decide +kernel
theorem dX7_answer_38 : decode cX7_answer 38 = .ok (.getfield 15, 3) := by decide +kernel
theorem dX7_answer_41 : decode cX7_answer 41 = .ok (.ireturn, 1) := by decide +kernel
theorem dX7_answer_42 : decode cX7_answer 42 = .ok (.aload_n 0, 1) := by decide +kernel
theorem dX7_answer_43 : decode cX7_answer 43 = .ok (.getfield 18, 3) := by decide +kernel
theorem dX7_answer_46 : decode cX7_answer 46 = .ok (.ireturn, 1) := by decide +kernel
theorem dX7_answer_47 : decode cX7_answer 47 = .ok (.aload_n 0, 1) := by decide +kernel
theorem dX7_answer_48 : decode cX7_answer 48 = .ok (.getfield 21, 3) := by decide +kernel
theorem dX7_answer_51 : decode cX7_answer 51 = .ok (.ireturn, 1) := by decide +kernel
theorem dX7_answer_52 : decode cX7_answer 52 = .ok (.aload_n 0, 1) := by decide +kernel
theorem dX7_answer_53 : decode cX7_answer 53 = .ok (.getfield 24, 3) := by decide +kernel
theorem dX7_answer_56 : decode cX7_answer 56 = .ok (.ireturn, 1) := by decide +kernel
theorem dX8_init_0 : decode cX8_init 0 = .ok (.aload_n 0, 1) := by decide +kernel
theorem dX8_init_1 : decode cX8_init 1 = .ok (.invokespecial 3, 3) := by decide +kernel
theorem dX8_init_4 : decode cX8_init 4 = .ok (.aload_n 0, 1) := by decide +kernel
theorem dX8_init_5 : decode cX8_init 5 = .ok (.bipush 16, 2) := by decide +kernel
theorem dX8_init_7 : decode cX8_init 7 = .ok (.newarray .int, 2) := by decide +kernel
theorem dX8_init_9 : decode cX8_init 9 = .ok (.putfield 9, 3) := by decide +kernel
theorem dX8_init_12 : decode cX8_init 12 = .ok (.aload_n 0, 1) := by decide +kernel
theorem dX8_init_13 : decode cX8_init 13 = .ok (.iconst 4, 1) := by decide +kernel
theorem dX8_init_14 : decode cX8_init 14 = .ok (.newarray .int, 2) := by decide +kernel
theorem dX8_init_16 : decode cX8_init 16 = .ok (.putfield 15, 3) := by decide +kernel
theorem dX8_init_19 : decode cX8_init 19 = .ok (.return_, 1) := by decide +kernel
set_option maxRecDepth 20000 in
theorem ggX8_narrow_X8_fits : GoodIn wsX8_narrow wsX8_fits := goodIn_r _ [14, 2, 19, 20] (by decide +kernel) (by decide +kernel)
set_option maxRecDepth 20000 in
theorem gX8_narrow_X8_fits : GoodIn wsX8_narrow (wsV RX8 35 RX8 yX8_fits wsX8_fits) := goodIn_app (goodIn_of _ (by decide +kernel)) ggX8_narrow_X8_fits
theorem dX8_narrow_0 : decode cX8_narrow 0 = .ok (.iconst 0, 1) := by decide +kernel
theorem dX8_narrow_1 : decode cX8_narrow 1 = .ok (.istore 4, 2) := by decide +kernel
theorem dX8_narrow_3 : decode cX8_narrow 3 = .ok (.iload 4, 2) := by decide +kernel
theorem dX8_narrow_5 : decode cX8_narrow 5 = .ok (.bipush 16, 2) := by decide +kernel
theorem dX8_narrow_7 : decode cX8_narrow 7 = .ok (.if_icmp .ge 123, 3) := by decide +kernel
theorem dX8_narrow_10 : decode cX8_narrow 10 = .ok (.aload_n 1, 1) := by decide +kernel
theorem dX8_narrow_11 : decode cX8_narrow 11 = .ok (.getfield 18, 3) := by decide +kernel
theorem dX8_narrow_14 : decode cX8_narrow 14 = .ok (.iload 4, 2) := by decide +kernel
theorem dX8_narrow_16 : decode cX8_narrow 16 = .ok (.iconst 4, 1) := by decide +kernel
theorem dX8_narrow_17 : decode cX8_narrow 17 = .ok (.imul, 1) := by decide +kernel
theorem dX8_narrow_18 : decode cX8_narrow 18 = .ok (.aload_n 0, 1) := by decide +kernel
theorem dX8_narrow_19 : decode cX8_narrow 19 = .ok (.getfield 15, 3) := by decide +kernel
theorem dX8_narrow_22 : decode cX8_narrow 22 = .ok (.iconst 0, 1) := by decide +kernel
theorem dX8_narrow_23 : decode cX8_narrow 23 = .ok (.iconst 4, 1) := by decide +kernel
theorem dX8_narrow_24 : decode cX8_narrow 24 = .ok (.invokestatic 23, 3) := by decide +kernel
theorem dX8_narrow_27 : decode cX8_narrow 27 = .ok (.aload_n 0, 1) := by decide +kernel
theorem dX8_narrow_28 : decode cX8_narrow 28 = .ok (.getfield 9, 3) := by decide +kernel
theorem dX8_narrow_31 : decode cX8_narrow 31 = .ok (.iload 4, 2) := by decide +kernel
theorem dX8_narrow_33 : decode cX8_narrow 33 = .ok (.iconst 0, 1) := by decide +kernel
theorem dX8_narrow_34 : decode cX8_narrow 34 = .ok (.iastore, 1) := by decide +kernel
theorem dX8_narrow_35 : decode cX8_narrow 35 = .ok (.iconst 0, 1) := by decide +kernel
theorem dX8_narrow_36 : decode cX8_narrow 36 = .ok (.istore 5, 2) := by decide +kernel
theorem dX8_narrow_38 : decode cX8_narrow 38 = .ok (.iload 5, 2) := by decide +kernel
theorem dX8_narrow_40 : decode cX8_narrow 40 = .ok (.aload_n 1, 1) := by decide +kernel
theorem dX8_narrow_41 : decode cX8_narrow 41 = .ok (.getfield 29, 3) := by decide +kernel
theorem dX8_narrow_44 : decode cX8_narrow 44 = .ok (.iload 4, 2) := by decide +kernel
theorem dX8_narrow_46 : decode cX8_narrow 46 = .ok (.iaload, 1) := by decide +kernel
theorem dX8_narrow_47 : decode cX8_narrow 47 = .ok (.if_icmp .gt 77, 3) := by decide +kernel
theorem dX8_narrow_50 : decode cX8_narrow 50 = .ok (.iload 5, 2) := by decide +kernel
theorem dX8_narrow_52 : decode cX8_narrow 52 = .ok (.ifCond .le 37, 3) := by decide +kernel
theorem dX8_narrow_55 : decode cX8_narrow 55 = .ok (.aload_n 1, 1) := by decide +kernel
theorem dX8_narrow_56 : decode cX8_narrow 56 = .ok (.getfield 32, 3) := by decide +kernel
theorem dX8_narrow_59 : decode cX8_narrow 59 = .ok (.iload 4, 2) := by decide +kernel
theorem dX8_narrow_61 : decode cX8_narrow 61 = .ok (.bipush 6, 2) := by decide +kernel
theorem dX8_narrow_63 : decode cX8_narrow 63 = .ok (.imul, 1) := by decide +kernel
theorem dX8_narrow_64 : decode cX8_narrow 64 = .ok (.iload 5, 2) := by decide +kernel
theorem dX8_narrow_66 : decode cX8_narrow 66 = .ok (.iadd, 1) := by decide +kernel
theorem dX8_narrow_67 : decode cX8_narrow 67 = .ok (.iconst 1, 1) := by decide +kernel
theorem dX8_narrow_68 : decode cX8_narrow 68 = .ok (.isub, 1) := by decide +kernel
theorem dX8_narrow_69 : decode cX8_narrow 69 = .ok (.iaload, 1) := by decide +kernel
theorem dX8_narrow_70 : decode cX8_narrow 70 = .ok (.istore 6, 2) := by decide +kernel
theorem dX8_narrow_72 : decode cX8_narrow 72 = .ok (.aload_n 0, 1) := by decide +kernel
theorem dX8_narrow_73 : decode cX8_narrow 73 = .ok (.getfield 15, 3) := by decide +kernel
theorem dX8_narrow_76 : decode cX8_narrow 76 = .ok (.iload 6, 2) := by decide +kernel
theorem dX8_narrow_78 : decode cX8_narrow 78 = .ok (.bipush 100, 2) := by decide +kernel
theorem dX8_narrow_80 : decode cX8_narrow 80 = .ok (.idiv, 1) := by decide +kernel
theorem dX8_narrow_81 : decode cX8_narrow 81 = .ok (.iconst 4, 1) := by decide +kernel
theorem dX8_narrow_82 : decode cX8_narrow 82 = .ok (.irem, 1) := by decide +kernel
theorem dX8_narrow_83 : decode cX8_narrow 83 = .ok (.iload 6, 2) := by decide +kernel
theorem dX8_narrow_85 : decode cX8_narrow 85 = .ok (.bipush 100, 2) := by decide +kernel
theorem dX8_narrow_87 : decode cX8_narrow 87 = .ok (.irem, 1) := by decide +kernel
theorem dX8_narrow_88 : decode cX8_narrow 88 = .ok (.iastore, 1) := by decide +kernel
theorem dX8_narrow_89 : decode cX8_narrow 89 = .ok (.aload_n 0, 1) := by decide +kernel
theorem dX8_narrow_90 : decode cX8_narrow 90 = .ok (.getfield 9, 3) := by decide +kernel
theorem dX8_narrow_93 : decode cX8_narrow 93 = .ok (.iload 4, 2) := by decide +kernel
theorem dX8_narrow_95 : decode cX8_narrow 95 = .ok (.dup2, 1) := by decide +kernel
theorem dX8_narrow_96 : decode cX8_narrow 96 = .ok (.iaload, 1) := by decide +kernel
theorem dX8_narrow_97 : decode cX8_narrow 97 = .ok (.aload_n 0, 1) := by decide +kernel
theorem dX8_narrow_98 : decode cX8_narrow 98 = .ok (.iload 4, 2) := by decide +kernel
theorem dX8_narrow_100 : decode cX8_narrow 100 = .ok (.aload_n 2, 1) := by decide +kernel
theorem dX8_narrow_101 : decode cX8_narrow 101 = .ok (.iload_n 3, 1) := by decide +kernel
theorem dX8_narrow_102 : decode cX8_narrow 102 = .ok (.invokevirtual 35, 3) := by decide +kernel
theorem dX8_narrow_105 : decode cX8_narrow 105 = .ok (.ifCond .eq 10, 3) := by decide +kernel
theorem dX8_narrow_108 : decode cX8_narrow 108 = .ok (.iconst 1, 1) := by decide +kernel
theorem dX8_narrow_109 : decode cX8_narrow 109 = .ok (.iload 5, 2) := by decide +kernel
theorem dX8_narrow_111 : decode cX8_narrow 111 = .ok (.ishl, 1) := by decide +kernel
theorem dX8_narrow_112 : decode cX8_narrow 112 = .ok (.goto 4, 3) := by decide +kernel
theorem dX8_narrow_115 : decode cX8_narrow 115 = .ok (.iconst 0, 1) := by decide +kernel
theorem dX8_narrow_116 : decode cX8_narrow 116 = .ok (.ior, 1) := by decide +kernel
theorem dX8_narrow_117 : decode cX8_narrow 117 = .ok (.iastore, 1) := by decide +kernel
theorem dX8_narrow_118 : decode cX8_narrow 118 = .ok (.iinc 5 1, 3) := by decide +kernel
theorem dX8_narrow_121 : decode cX8_narrow 121 = .ok (.goto (-83), 3) := by decide +kernel
theorem dX8_narrow_124 : decode cX8_narrow 124 = .ok (.iinc 4 1, 3) := by decide +kernel
theorem dX8_narrow_127 : decode cX8_narrow 127 = .ok (.goto (-124), 3) := by decide +kernel
theorem dX8_narrow_130 : decode cX8_narrow 130 = .ok (.return_, 1) := by decide +kernel
theorem dX8_fits_0 : decode cX8_fits 0 = .ok (.iconst 0, 1) := by decide +kernel
theorem dX8_fits_1 : decode cX8_fits 1 = .ok (.istore 4, 2) := by decide +kernel
theorem dX8_fits_3 : decode cX8_fits 3 = .ok (.iload 4, 2) := by decide +kernel
theorem dX8_fits_5 : decode cX8_fits 5 = .ok (.iload_n 3, 1) := by decide +kernel
theorem dX8_fits_6 : decode cX8_fits 6 = .ok (.if_icmp .ge 49, 3) := by decide +kernel
theorem dX8_fits_9 : decode cX8_fits 9 = .ok (.aload_n 2, 1) := by decide +kernel
theorem dX8_fits_10 : decode cX8_fits 10 = .ok (.iload 4, 2) := by decide +kernel
theorem dX8_fits_12 : decode cX8_fits 12 = .ok (.iaload, 1) := by decide +kernel
theorem dX8_fits_13 : decode cX8_fits 13 = .ok (.sipush 1000, 3) := by decide +kernel
theorem dX8_fits_16 : decode cX8_fits 16 = .ok (.idiv, 1) := by decide +kernel
theorem dX8_fits_17 : decode cX8_fits 17 = .ok (.istore 5, 2) := by decide +kernel
theorem dX8_fits_19 : decode cX8_fits 19 = .ok (.iload 5, 2) := by decide +kernel
theorem dX8_fits_21 : decode cX8_fits 21 = .ok (.iconst 4, 1) := by decide +kernel
theorem dX8_fits_22 : decode cX8_fits 22 = .ok (.idiv, 1) := by decide +kernel
theorem dX8_fits_23 : decode cX8_fits 23 = .ok (.iload_n 1, 1) := by decide +kernel
theorem dX8_fits_24 : decode cX8_fits 24 = .ok (.if_icmp .ne 25, 3) := by decide +kernel
theorem dX8_fits_27 : decode cX8_fits 27 = .ok (.aload_n 0, 1) := by decide +kernel
theorem dX8_fits_28 : decode cX8_fits 28 = .ok (.getfield 15, 3) := by decide +kernel
theorem dX8_fits_31 : decode cX8_fits 31 = .ok (.iload 5, 2) := by decide +kernel
theorem dX8_fits_33 : decode cX8_fits 33 = .ok (.iconst 4, 1) := by decide +kernel
theorem dX8_fits_34 : decode cX8_fits 34 = .ok (.irem, 1) := by decide +kernel
theorem dX8_fits_35 : decode cX8_fits 35 = .ok (.iaload, 1) := by decide +kernel
theorem dX8_fits_36 : decode cX8_fits 36 = .ok (.aload_n 2, 1) := by decide +kernel
theorem dX8_fits_37 : decode cX8_fits 37 = .ok (.iload 4, 2) := by decide +kernel
theorem dX8_fits_39 : decode cX8_fits 39 = .ok (.iaload, 1) := by decide +kernel
theorem dX8_fits_40 : decode cX8_fits 40 = .ok (.sipush 1000, 3) := by decide +kernel
theorem dX8_fits_43 : decode cX8_fits 43 = .ok (.irem, 1) := by decide +kernel
theorem dX8_fits_44 : decode cX8_fits 44 = .ok (.if_icmp .eq 5, 3) := by decide +kernel
theorem dX8_fits_47 : decode cX8_fits 47 = .ok (.iconst 0, 1) := by decide +kernel
theorem dX8_fits_48 : decode cX8_fits 48 = .ok (.ireturn, 1) := by decide +kernel
theorem dX8_fits_49 : decode cX8_fits 49 = .ok (.iinc 4 1, 3) := by decide +kernel
theorem dX8_fits_52 : decode cX8_fits 52 = .ok (.goto (-49), 3) := by decide +kernel
theorem dX8_fits_55 : decode cX8_fits 55 = .ok (.iconst 1, 1) := by decide +kernel
theorem dX8_fits_56 : decode cX8_fits 56 = .ok (.ireturn, 1) := by decide +kernel
set_option maxRecDepth 20000 in
theorem ggX8_ordersLeft_J6_bitCount_0f7a4 : GoodIn wsX8_ordersLeft wsJ6_bitCount_0f7a4 := goodIn_r _ [5, 6, 7, 8] (by decide +kernel) (by decide +kernel)
set_option maxRecDepth 20000 in
theorem gX8_ordersLeft_J6_bitCount_0f7a4 : GoodIn wsX8_ordersLeft (va_wsS RX8 39 yJ6_bitCount_0f7a4 wsJ6_bitCount_0f7a4) := goodIn_app (goodIn_of _ (by decide +kernel)) ggX8_ordersLeft_J6_bitCount_0f7a4
theorem dX8_ordersLeft_0 : decode cX8_ordersLeft 0 = .ok (.iconst 1, 1) := by decide +kernel
theorem dX8_ordersLeft_1 : decode cX8_ordersLeft 1 = .ok (.istore_n 1, 1) := by decide +kernel
theorem dX8_ordersLeft_2 : decode cX8_ordersLeft 2 = .ok (.iconst 0, 1) := by decide +kernel
theorem dX8_ordersLeft_3 : decode cX8_ordersLeft 3 = .ok (.istore_n 2, 1) := by decide +kernel
theorem dX8_ordersLeft_4 : decode cX8_ordersLeft 4 = .ok (.iload_n 2, 1) := by decide +kernel
theorem dX8_ordersLeft_5 : decode cX8_ordersLeft 5 = .ok (.bipush 16, 2) := by decide +kernel
theorem dX8_ordersLeft_7 : decode cX8_ordersLeft 7 = .ok (.if_icmp .ge 21, 3) := by decide +kernel
theorem dX8_ordersLeft_10 : decode cX8_ordersLeft 10 = .ok (.iload_n 1, 1) := by decide +kernel
theorem dX8_ordersLeft_11 : decode cX8_ordersLeft 11 = .ok (.aload_n 0, 1) := by decide +kernel
theorem dX8_ordersLeft_12 : decode cX8_ordersLeft 12 = .ok (.getfield 9, 3) := by decide +kernel
theorem dX8_ordersLeft_15 : decode cX8_ordersLeft 15 = .ok (.iload_n 2, 1) := by decide +kernel
theorem dX8_ordersLeft_16 : decode cX8_ordersLeft 16 = .ok (.iaload, 1) := by decide +kernel
theorem dX8_ordersLeft_17 : decode cX8_ordersLeft 17 = .ok (.invokestatic 39, 3) := by decide +kernel
theorem dX8_ordersLeft_20 : decode cX8_ordersLeft 20 = .ok (.imul, 1) := by decide +kernel
theorem dX8_ordersLeft_21 : decode cX8_ordersLeft 21 = .ok (.istore_n 1, 1) := by decide +kernel
theorem dX8_ordersLeft_22 : decode cX8_ordersLeft 22 = .ok (.iinc 2 1, 3) := by decide +kernel
theorem dX8_ordersLeft_25 : decode cX8_ordersLeft 25 = .ok (.goto (-21), 3) := by decide +kernel
theorem dX8_ordersLeft_28 : decode cX8_ordersLeft 28 = .ok (.iload_n 1, 1) := by decide +kernel
theorem dX8_ordersLeft_29 : decode cX8_ordersLeft 29 = .ok (.ireturn, 1) := by decide +kernel
set_option maxRecDepth 20000 in
theorem ggX8_firstLeft_J6_numberOfTrailingZeros_0f7a4 : GoodIn wsX8_firstLeft wsJ6_numberOfTrailingZeros_0f7a4 := goodIn_r _ [6, 7] (by decide +kernel) (by decide +kernel)
set_option maxRecDepth 20000 in
theorem gX8_firstLeft_J6_numberOfTrailingZeros_0f7a4 : GoodIn wsX8_firstLeft (va_wsS RX8 45 yJ6_numberOfTrailingZeros_0f7a4 wsJ6_numberOfTrailingZeros_0f7a4) := goodIn_app (goodIn_of _ (by decide +kernel)) ggX8_firstLeft_J6_numberOfTrailingZeros_0f7a4
theorem dX8_firstLeft_0 : decode cX8_firstLeft 0 = .ok (.iconst 0, 1) := by decide +kernel
theorem dX8_firstLeft_1 : decode cX8_firstLeft 1 = .ok (.istore_n 2, 1) := by decide +kernel
theorem dX8_firstLeft_2 : decode cX8_firstLeft 2 = .ok (.iconst 0, 1) := by decide +kernel
theorem dX8_firstLeft_3 : decode cX8_firstLeft 3 = .ok (.istore_n 3, 1) := by decide +kernel
theorem dX8_firstLeft_4 : decode cX8_firstLeft 4 = .ok (.iload_n 3, 1) := by decide +kernel
theorem dX8_firstLeft_5 : decode cX8_firstLeft 5 = .ok (.bipush 16, 2) := by decide +kernel
theorem dX8_firstLeft_7 : decode cX8_firstLeft 7 = .ok (.if_icmp .ge 30, 3) := by decide +kernel
theorem dX8_firstLeft_10 : decode cX8_firstLeft 10 = .ok (.iload_n 2, 1) := by decide +kernel
theorem dX8_firstLeft_11 : decode cX8_firstLeft 11 = .ok (.aload_n 1, 1) := by decide +kernel
theorem dX8_firstLeft_12 : decode cX8_firstLeft 12 = .ok (.getfield 29, 3) := by decide +kernel
theorem dX8_firstLeft_15 : decode cX8_firstLeft 15 = .ok (.iload_n 3, 1) := by decide +kernel
theorem dX8_firstLeft_16 : decode cX8_firstLeft 16 = .ok (.iaload, 1) := by decide +kernel
theorem dX8_firstLeft_17 : decode cX8_firstLeft 17 = .ok (.iconst 1, 1) := by decide +kernel
theorem dX8_firstLeft_18 : decode cX8_firstLeft 18 = .ok (.iadd, 1) := by decide +kernel
theorem dX8_firstLeft_19 : decode cX8_firstLeft 19 = .ok (.imul, 1) := by decide +kernel
theorem dX8_firstLeft_20 : decode cX8_firstLeft 20 = .ok (.aload_n 0, 1) := by decide +kernel
theorem dX8_firstLeft_21 : decode cX8_firstLeft 21 = .ok (.getfield 9, 3) := by decide +kernel
theorem dX8_firstLeft_24 : decode cX8_firstLeft 24 = .ok (.iload_n 3, 1) := by decide +kernel
theorem dX8_firstLeft_25 : decode cX8_firstLeft 25 = .ok (.iaload, 1) := by decide +kernel
theorem dX8_firstLeft_26 : decode cX8_firstLeft 26 = .ok (.invokestatic 45, 3) := by decide +kernel
theorem dX8_firstLeft_29 : decode cX8_firstLeft 29 = .ok (.iadd, 1) := by decide +kernel
theorem dX8_firstLeft_30 : decode cX8_firstLeft 30 = .ok (.istore_n 2, 1) := by decide +kernel
theorem dX8_firstLeft_31 : decode cX8_firstLeft 31 = .ok (.iinc 3 1, 3) := by decide +kernel
theorem dX8_firstLeft_34 : decode cX8_firstLeft 34 = .ok (.goto (-30), 3) := by decide +kernel
theorem dX8_firstLeft_37 : decode cX8_firstLeft 37 = .ok (.iload_n 2, 1) := by decide +kernel
theorem dX8_firstLeft_38 : decode cX8_firstLeft 38 = .ok (.ireturn, 1) := by decide +kernel
set_option maxRecDepth 20000 in
theorem ggX8_unlikeNumbers_J13_bitCount_95d88 : GoodIn wsX8_unlikeNumbers wsJ13_bitCount_95d88 := goodIn_r _ [8, 9, 10, 11] (by decide +kernel) (by decide +kernel)
set_option maxRecDepth 20000 in
theorem gX8_unlikeNumbers_J13_bitCount_95d88 : GoodIn wsX8_unlikeNumbers (va_wsS RX8 48 yJ13_bitCount_95d88 wsJ13_bitCount_95d88) := goodIn_app (goodIn_of _ (by decide +kernel)) ggX8_unlikeNumbers_J13_bitCount_95d88
theorem dX8_unlikeNumbers_0 : decode cX8_unlikeNumbers 0 = .ok (.iload_n 2, 1) := by decide +kernel
theorem dX8_unlikeNumbers_1 : decode cX8_unlikeNumbers 1 = .ok (.iconst 4, 1) := by decide +kernel
theorem dX8_unlikeNumbers_2 : decode cX8_unlikeNumbers 2 = .ok (.idiv, 1) := by decide +kernel
theorem dX8_unlikeNumbers_3 : decode cX8_unlikeNumbers 3 = .ok (.istore_n 3, 1) := by decide +kernel
theorem dX8_unlikeNumbers_4 : decode cX8_unlikeNumbers 4 = .ok (.aload_n 1, 1) := by decide +kernel
theorem dX8_unlikeNumbers_5 : decode cX8_unlikeNumbers 5 = .ok (.getfield 18, 3) := by decide +kernel
theorem dX8_unlikeNumbers_8 : decode cX8_unlikeNumbers 8 = .ok (.iload_n 2, 1) := by decide +kernel
theorem dX8_unlikeNumbers_9 : decode cX8_unlikeNumbers 9 = .ok (.iaload, 1) := by decide +kernel
theorem dX8_unlikeNumbers_10 : decode cX8_unlikeNumbers 10 = .ok (.istore 4, 2) := by decide +kernel
theorem dX8_unlikeNumbers_12 : decode cX8_unlikeNumbers 12 = .ok (.lconst 0, 1) := by decide +kernel
theorem dX8_unlikeNumbers_13 : decode cX8_unlikeNumbers 13 = .ok (.lstore 5, 2) := by decide +kernel
theorem dX8_unlikeNumbers_15 : decode cX8_unlikeNumbers 15 = .ok (.lconst 0, 1) := by decide +kernel
theorem dX8_unlikeNumbers_16 : decode cX8_unlikeNumbers 16 = .ok (.lstore 7, 2) := by decide +kernel
theorem dX8_unlikeNumbers_18 : decode cX8_unlikeNumbers 18 = .ok (.iconst 0, 1) := by decide +kernel
theorem dX8_unlikeNumbers_19 : decode cX8_unlikeNumbers 19 = .ok (.istore 9, 2) := by decide +kernel
theorem dX8_unlikeNumbers_21 : decode cX8_unlikeNumbers 21 = .ok (.iload 9, 2) := by decide +kernel
theorem dX8_unlikeNumbers_23 : decode cX8_unlikeNumbers 23 = .ok (.aload_n 1, 1) := by decide +kernel
theorem dX8_unlikeNumbers_24 : decode cX8_unlikeNumbers 24 = .ok (.getfield 29, 3) := by decide +kernel
theorem dX8_unlikeNumbers_27 : decode cX8_unlikeNumbers 27 = .ok (.iload_n 3, 1) := by decide +kernel
theorem dX8_unlikeNumbers_28 : decode cX8_unlikeNumbers 28 = .ok (.iaload, 1) := by decide +kernel
theorem dX8_unlikeNumbers_29 : decode cX8_unlikeNumbers 29 = .ok (.if_icmp .gt 112, 3) := by decide +kernel
theorem dX8_unlikeNumbers_32 : decode cX8_unlikeNumbers 32 = .ok (.iload 9, 2) := by decide +kernel
theorem dX8_unlikeNumbers_34 : decode cX8_unlikeNumbers 34 = .ok (.ifCond .le 20, 3) := by decide +kernel
theorem dX8_unlikeNumbers_37 : decode cX8_unlikeNumbers 37 = .ok (.aload_n 1, 1) := by decide +kernel
theorem dX8_unlikeNumbers_38 : decode cX8_unlikeNumbers 38 = .ok (.getfield 32, 3) := by decide +kernel
theorem dX8_unlikeNumbers_41 : decode cX8_unlikeNumbers 41 = .ok (.iload_n 3, 1) := by decide +kernel
theorem dX8_unlikeNumbers_42 : decode cX8_unlikeNumbers 42 = .ok (.bipush 6, 2) := by decide +kernel
theorem dX8_unlikeNumbers_44 : decode cX8_unlikeNumbers 44 = .ok (.imul, 1) := by decide +kernel
theorem dX8_unlikeNumbers_45 : decode cX8_unlikeNumbers 45 = .ok (.iload 9, 2) := by decide +kernel
theorem dX8_unlikeNumbers_47 : decode cX8_unlikeNumbers 47 = .ok (.iadd, 1) := by decide +kernel
theorem dX8_unlikeNumbers_48 : decode cX8_unlikeNumbers 48 = .ok (.iconst 1, 1) := by decide +kernel
theorem dX8_unlikeNumbers_49 : decode cX8_unlikeNumbers 49 = .ok (.isub, 1) := by decide +kernel
theorem dX8_unlikeNumbers_50 : decode cX8_unlikeNumbers 50 = .ok (.iaload, 1) := by decide +kernel
theorem dX8_unlikeNumbers_51 : decode cX8_unlikeNumbers 51 = .ok (.goto 4, 3) := by decide +kernel
theorem dX8_unlikeNumbers_54 : decode cX8_unlikeNumbers 54 = .ok (.iconst (-1), 1) := by decide +kernel
theorem dX8_unlikeNumbers_55 : decode cX8_unlikeNumbers 55 = .ok (.istore 10, 2) := by decide +kernel
theorem dX8_unlikeNumbers_57 : decode cX8_unlikeNumbers 57 = .ok (.iload 9, 2) := by decide +kernel
theorem dX8_unlikeNumbers_59 : decode cX8_unlikeNumbers 59 = .ok (.ifCond .le 19, 3) := by decide +kernel
theorem dX8_unlikeNumbers_62 : decode cX8_unlikeNumbers 62 = .ok (.iload 10, 2) := by decide +kernel
theorem dX8_unlikeNumbers_64 : decode cX8_unlikeNumbers 64 = .ok (.bipush 100, 2) := by decide +kernel
theorem dX8_unlikeNumbers_66 : decode cX8_unlikeNumbers 66 = .ok (.idiv, 1) := by decide +kernel
theorem dX8_unlikeNumbers_67 : decode cX8_unlikeNumbers 67 = .ok (.iload_n 2, 1) := by decide +kernel
theorem dX8_unlikeNumbers_68 : decode cX8_unlikeNumbers 68 = .ok (.if_icmp .ne 10, 3) := by decide +kernel
theorem dX8_unlikeNumbers_71 : decode cX8_unlikeNumbers 71 = .ok (.iload 10, 2) := by decide +kernel
theorem dX8_unlikeNumbers_73 : decode cX8_unlikeNumbers 73 = .ok (.bipush 100, 2) := by decide +kernel
theorem dX8_unlikeNumbers_75 : decode cX8_unlikeNumbers 75 = .ok (.irem, 1) := by decide +kernel
theorem dX8_unlikeNumbers_76 : decode cX8_unlikeNumbers 76 = .ok (.istore 4, 2) := by decide +kernel
theorem dX8_unlikeNumbers_78 : decode cX8_unlikeNumbers 78 = .ok (.aload_n 0, 1) := by decide +kernel
theorem dX8_unlikeNumbers_79 : decode cX8_unlikeNumbers 79 = .ok (.getfield 9, 3) := by decide +kernel
theorem dX8_unlikeNumbers_82 : decode cX8_unlikeNumbers 82 = .ok (.iload_n 3, 1) := by decide +kernel
theorem dX8_unlikeNumbers_83 : decode cX8_unlikeNumbers 83 = .ok (.iaload, 1) := by decide +kernel
theorem dX8_unlikeNumbers_84 : decode cX8_unlikeNumbers 84 = .ok (.iload 9, 2) := by decide +kernel
theorem dX8_unlikeNumbers_86 : decode cX8_unlikeNumbers 86 = .ok (.ishr, 1) := by decide +kernel
theorem dX8_unlikeNumbers_87 : decode cX8_unlikeNumbers 87 = .ok (.iconst 1, 1) := by decide +kernel
theorem dX8_unlikeNumbers_88 : decode cX8_unlikeNumbers 88 = .ok (.iand, 1) := by decide +kernel
theorem dX8_unlikeNumbers_89 : decode cX8_unlikeNumbers 89 = .ok (.ifCond .eq 46, 3) := by decide +kernel
theorem dX8_unlikeNumbers_92 : decode cX8_unlikeNumbers 92 = .ok (.lload 5, 2) := by decide +kernel
theorem dX8_unlikeNumbers_94 : decode cX8_unlikeNumbers 94 = .ok (.iload 4, 2) := by decide +kernel
theorem dX8_unlikeNumbers_96 : decode cX8_unlikeNumbers 96 = .ok (.bipush 64, 2) := by decide +kernel
theorem dX8_unlikeNumbers_98 : decode cX8_unlikeNumbers 98 = .ok (.if_icmp .ge 10, 3) := by decide +kernel
theorem dX8_unlikeNumbers_101 : decode cX8_unlikeNumbers 101 = .ok (.lconst 1, 1) := by decide +kernel
theorem dX8_unlikeNumbers_102 : decode cX8_unlikeNumbers 102 = .ok (.iload 4, 2) := by decide +kernel
theorem dX8_unlikeNumbers_104 : decode cX8_unlikeNumbers 104 = .ok (.lshl, 1) := by decide +kernel
theorem dX8_unlikeNumbers_105 : decode cX8_unlikeNumbers 105 = .ok (.goto 4, 3) := by decide +kernel
theorem dX8_unlikeNumbers_108 : decode cX8_unlikeNumbers 108 = .ok (.lconst 0, 1) := by decide +kernel
theorem dX8_unlikeNumbers_109 : decode cX8_unlikeNumbers 109 = .ok (.lor, 1) := by decide +kernel
theorem dX8_unlikeNumbers_110 : decode cX8_unlikeNumbers 110 = .ok (.lstore 5, 2) := by decide +kernel
theorem dX8_unlikeNumbers_112 : decode cX8_unlikeNumbers 112 = .ok (.lload 7, 2) := by decide +kernel
theorem dX8_unlikeNumbers_114 : decode cX8_unlikeNumbers 114 = .ok (.iload 4, 2) := by decide +kernel
theorem dX8_unlikeNumbers_116 : decode cX8_unlikeNumbers 116 = .ok (.bipush 64, 2) := by decide +kernel
theorem dX8_unlikeNumbers_118 : decode cX8_unlikeNumbers 118 = .ok (.if_icmp .ge 7, 3) := by decide +kernel
theorem dX8_unlikeNumbers_121 : decode cX8_unlikeNumbers 121 = .ok (.lconst 0, 1) := by decide +kernel
theorem dX8_unlikeNumbers_122 : decode cX8_unlikeNumbers 122 = .ok (.goto 10, 3) := by decide +kernel
theorem dX8_unlikeNumbers_125 : decode cX8_unlikeNumbers 125 = .ok (.lconst 1, 1) := by decide +kernel
theorem dX8_unlikeNumbers_126 : decode cX8_unlikeNumbers 126 = .ok (.iload 4, 2) := by decide +kernel
theorem dX8_unlikeNumbers_128 : decode cX8_unlikeNumbers 128 = .ok (.bipush 64, 2) := by decide +kernel
theorem dX8_unlikeNumbers_130 : decode cX8_unlikeNumbers 130 = .ok (.isub, 1) := by decide +kernel
theorem dX8_unlikeNumbers_131 : decode cX8_unlikeNumbers 131 = .ok (.lshl, 1) := by decide +kernel
theorem dX8_unlikeNumbers_132 : decode cX8_unlikeNumbers 132 = .ok (.lor, 1) := by decide +kernel
theorem dX8_unlikeNumbers_133 : decode cX8_unlikeNumbers 133 = .ok (.lstore 7, 2) := by decide +kernel
theorem dX8_unlikeNumbers_135 : decode cX8_unlikeNumbers 135 = .ok (.iinc 9 1, 3) := by decide +kernel
theorem dX8_unlikeNumbers_138 : decode cX8_unlikeNumbers 138 = .ok (.goto (-117), 3) := by decide +kernel
theorem dX8_unlikeNumbers_141 : decode cX8_unlikeNumbers 141 = .ok (.lload 5, 2) := by decide +kernel
theorem dX8_unlikeNumbers_143 : decode cX8_unlikeNumbers 143 = .ok (.invokestatic 48, 3) := by decide +kernel
theorem dX8_unlikeNumbers_146 : decode cX8_unlikeNumbers 146 = .ok (.lload 7, 2) := by decide +kernel
theorem dX8_unlikeNumbers_148 : decode cX8_unlikeNumbers 148 = .ok (.invokestatic 48, 3) := by decide +kernel
theorem dX8_unlikeNumbers_151 : decode cX8_unlikeNumbers 151 = .ok (.iadd, 1) := by decide +kernel
theorem dX8_unlikeNumbers_152 : decode cX8_unlikeNumbers 152 = .ok (.ireturn, 1) := by decide +kernel
theorem dX9_init_0 : decode cX9_init 0 = .ok (.aload_n 0, 1) := by decide +kernel
theorem dX9_init_1 : decode cX9_init 1 = .ok (.invokespecial 3, 3) := by decide +kernel
theorem dX9_init_4 : decode cX9_init 4 = .ok (.aload_n 0, 1) := by decide +kernel
theorem dX9_init_5 : decode cX9_init 5 = .ok (.bipush 16, 2) := by decide +kernel
theorem dX9_init_7 : decode cX9_init 7 = .ok (.newarray .int, 2) := by decide +kernel
theorem dX9_init_9 : decode cX9_init 9 = .ok (.putfield 9, 3) := by decide +kernel
theorem dX9_init_12 : decode cX9_init 12 = .ok (.aload_n 0, 1) := by decide +kernel
theorem dX9_init_13 : decode cX9_init 13 = .ok (.bipush 64, 2) := by decide +kernel
theorem dX9_init_15 : decode cX9_init 15 = .ok (.newarray .int, 2) := by decide +kernel
theorem dX9_init_17 : decode cX9_init 17 = .ok (.putfield 15, 3) := by decide +kernel
theorem dX9_init_20 : decode cX9_init 20 = .ok (.aload_n 0, 1) := by decide +kernel
theorem dX9_init_21 : decode cX9_init 21 = .ok (.bipush 64, 2) := by decide +kernel
theorem dX9_init_23 : decode cX9_init 23 = .ok (.newarray .int, 2) := by decide +kernel
theorem dX9_init_25 : decode cX9_init 25 = .ok (.putfield 18, 3) := by decide +kernel
theorem dX9_init_28 : decode cX9_init 28 = .ok (.return_, 1) := by decide +kernel
set_option maxRecDepth 20000 in
theorem ggX9_start_J7_fill_53178 : GoodIn wsX9_start wsJ7_fill_53178 := goodIn_r _ [11] (by decide +kernel) (by decide +kernel)
set_option maxRecDepth 20000 in
theorem gX9_start_J7_fill_53178 : GoodIn wsX9_start (va_wsS RX9 21 yJ7_fill_53178 wsJ7_fill_53178) := goodIn_app (goodIn_of _ (by decide +kernel)) ggX9_start_J7_fill_53178
theorem dX9_start_0 : decode cX9_start 0 = .ok (.aload_n 0, 1) := by decide +kernel
theorem dX9_start_1 : decode cX9_start 1 = .ok (.getfield 9, 3) := by decide +kernel
theorem dX9_start_4 : decode cX9_start 4 = .ok (.iconst 0, 1) := by decide +kernel
theorem dX9_start_5 : decode cX9_start 5 = .ok (.invokestatic 21, 3) := by decide +kernel
theorem dX9_start_8 : decode cX9_start 8 = .ok (.aload_n 1, 1) := by decide +kernel
theorem dX9_start_9 : decode cX9_start 9 = .ok (.getfield 27, 3) := by decide +kernel
theorem dX9_start_12 : decode cX9_start 12 = .ok (.iconst 0, 1) := by decide +kernel
theorem dX9_start_13 : decode cX9_start 13 = .ok (.aload_n 0, 1) := by decide +kernel
theorem dX9_start_14 : decode cX9_start 14 = .ok (.getfield 15, 3) := by decide +kernel
theorem dX9_start_17 : decode cX9_start 17 = .ok (.iconst 0, 1) := by decide +kernel
theorem dX9_start_18 : decode cX9_start 18 = .ok (.bipush 64, 2) := by decide +kernel
theorem dX9_start_20 : decode cX9_start 20 = .ok (.invokestatic 32, 3) := by decide +kernel
theorem dX9_start_23 : decode cX9_start 23 = .ok (.return_, 1) := by decide +kernel
set_option maxRecDepth 20000 in
theorem ggX9_open_X9_start : GoodIn wsX9_open wsX9_start := goodIn_r _ [6, 7, 8, 9, 10, 11, 12, 13, 14, 15, 16, 17, 27, 28, 29, 23, 24, 25, 26] (by decide +kernel) (by decide +kernel)
set_option maxRecDepth 20000 in
theorem gX9_open_X9_start : GoodIn wsX9_open (wsV RX9 38 RX9 yX9_start wsX9_start) := goodIn_app (goodIn_of _ (by decide +kernel)) ggX9_open_X9_start
set_option maxRecDepth 20000 in
theorem ggX9_open_X9_raise : GoodIn wsX9_open wsX9_raise := goodIn_r _ [21, 7, 1, 22, 9, 27, 28, 29, 23, 24, 25, 26] (by decide +kernel) (by decide +kernel)
set_option maxRecDepth 20000 in
theorem gX9_open_X9_raise : GoodIn wsX9_open (wsV RX9 45 RX9 yX9_raise wsX9_raise) := goodIn_app (goodIn_of _ (by decide +kernel)) ggX9_open_X9_raise
theorem dX9_open_0 : decode cX9_open 0 = .ok (.aload_n 0, 1) := by decide +kernel
theorem dX9_open_1 : decode cX9_open 1 = .ok (.aload_n 1, 1) := by decide +kernel
theorem dX9_open_2 : decode cX9_open 2 = .ok (.invokevirtual 38, 3) := by decide +kernel
theorem dX9_open_5 : decode cX9_open 5 = .ok (.iload_n 2, 1) := by decide +kernel
theorem dX9_open_6 : decode cX9_open 6 = .ok (.istore_n 3, 1) := by decide +kernel
theorem dX9_open_7 : decode cX9_open 7 = .ok (.bipush 15, 2) := by decide +kernel
theorem dX9_open_9 : decode cX9_open 9 = .ok (.istore 4, 2) := by decide +kernel
theorem dX9_open_11 : decode cX9_open 11 = .ok (.iload 4, 2) := by decide +kernel
theorem dX9_open_13 : decode cX9_open 13 = .ok (.ifCond .lt 36, 3) := by decide +kernel
theorem dX9_open_16 : decode cX9_open 16 = .ok (.aload_n 1, 1) := by decide +kernel
theorem dX9_open_17 : decode cX9_open 17 = .ok (.getfield 42, 3) := by decide +kernel
theorem dX9_open_20 : decode cX9_open 20 = .ok (.iload 4, 2) := by decide +kernel
theorem dX9_open_22 : decode cX9_open 22 = .ok (.iaload, 1) := by decide +kernel
theorem dX9_open_23 : decode cX9_open 23 = .ok (.iconst 1, 1) := by decide +kernel
theorem dX9_open_24 : decode cX9_open 24 = .ok (.iadd, 1) := by decide +kernel
theorem dX9_open_25 : decode cX9_open 25 = .ok (.istore 5, 2) := by decide +kernel
theorem dX9_open_27 : decode cX9_open 27 = .ok (.aload_n 0, 1) := by decide +kernel
theorem dX9_open_28 : decode cX9_open 28 = .ok (.aload_n 1, 1) := by decide +kernel
theorem dX9_open_29 : decode cX9_open 29 = .ok (.iload 4, 2) := by decide +kernel
theorem dX9_open_31 : decode cX9_open 31 = .ok (.iload_n 3, 1) := by decide +kernel
theorem dX9_open_32 : decode cX9_open 32 = .ok (.iload 5, 2) := by decide +kernel
theorem dX9_open_34 : decode cX9_open 34 = .ok (.irem, 1) := by decide +kernel
theorem dX9_open_35 : decode cX9_open 35 = .ok (.invokevirtual 45, 3) := by decide +kernel
theorem dX9_open_38 : decode cX9_open 38 = .ok (.iload_n 3, 1) := by decide +kernel
theorem dX9_open_39 : decode cX9_open 39 = .ok (.iload 5, 2) := by decide +kernel
theorem dX9_open_41 : decode cX9_open 41 = .ok (.idiv, 1) := by decide +kernel
theorem dX9_open_42 : decode cX9_open 42 = .ok (.istore_n 3, 1) := by decide +kernel
theorem dX9_open_43 : decode cX9_open 43 = .ok (.iinc 4 (-1), 3) := by decide +kernel
theorem dX9_open_46 : decode cX9_open 46 = .ok (.goto (-35), 3) := by decide +kernel
theorem dX9_open_49 : decode cX9_open 49 = .ok (.return_, 1) := by decide +kernel
theorem dX9_raise_0 : decode cX9_raise 0 = .ok (.iconst 0, 1) := by decide +kernel
theorem dX9_raise_1 : decode cX9_raise 1 = .ok (.istore 4, 2) := by decide +kernel
theorem dX9_raise_3 : decode cX9_raise 3 = .ok (.iload 4, 2) := by decide +kernel
theorem dX9_raise_5 : decode cX9_raise 5 = .ok (.iload_n 3, 1) := by decide +kernel
theorem dX9_raise_6 : decode cX9_raise 6 = .ok (.if_icmp .ge 67, 3) := by decide +kernel
theorem dX9_raise_9 : decode cX9_raise 9 = .ok (.aload_n 0, 1) := by decide +kernel
theorem dX9_raise_10 : decode cX9_raise 10 = .ok (.getfield 9, 3) := by decide +kernel
theorem dX9_raise_13 : decode cX9_raise 13 = .ok (.iload_n 2, 1) := by decide +kernel
theorem dX9_raise_14 : decode cX9_raise 14 = .ok (.iaload, 1) := by decide +kernel
theorem dX9_raise_15 : decode cX9_raise 15 = .ok (.aload_n 1, 1) := by decide +kernel
theorem dX9_raise_16 : decode cX9_raise 16 = .ok (.getfield 42, 3) := by decide +kernel
theorem dX9_raise_19 : decode cX9_raise 19 = .ok (.iload_n 2, 1) := by decide +kernel
theorem dX9_raise_20 : decode cX9_raise 20 = .ok (.iaload, 1) := by decide +kernel
theorem dX9_raise_21 : decode cX9_raise 21 = .ok (.if_icmp .ge 52, 3) := by decide +kernel
theorem dX9_raise_24 : decode cX9_raise 24 = .ok (.aload_n 1, 1) := by decide +kernel
theorem dX9_raise_25 : decode cX9_raise 25 = .ok (.getfield 49, 3) := by decide +kernel
theorem dX9_raise_28 : decode cX9_raise 28 = .ok (.iload_n 2, 1) := by decide +kernel
theorem dX9_raise_29 : decode cX9_raise 29 = .ok (.bipush 6, 2) := by decide +kernel
theorem dX9_raise_31 : decode cX9_raise 31 = .ok (.imul, 1) := by decide +kernel
theorem dX9_raise_32 : decode cX9_raise 32 = .ok (.aload_n 0, 1) := by decide +kernel
theorem dX9_raise_33 : decode cX9_raise 33 = .ok (.getfield 9, 3) := by decide +kernel
theorem dX9_raise_36 : decode cX9_raise 36 = .ok (.iload_n 2, 1) := by decide +kernel
theorem dX9_raise_37 : decode cX9_raise 37 = .ok (.iaload, 1) := by decide +kernel
theorem dX9_raise_38 : decode cX9_raise 38 = .ok (.iadd, 1) := by decide +kernel
theorem dX9_raise_39 : decode cX9_raise 39 = .ok (.iaload, 1) := by decide +kernel
theorem dX9_raise_40 : decode cX9_raise 40 = .ok (.istore 5, 2) := by decide +kernel
theorem dX9_raise_42 : decode cX9_raise 42 = .ok (.aload_n 0, 1) := by decide +kernel
theorem dX9_raise_43 : decode cX9_raise 43 = .ok (.getfield 15, 3) := by decide +kernel
theorem dX9_raise_46 : decode cX9_raise 46 = .ok (.iload 5, 2) := by decide +kernel
theorem dX9_raise_48 : decode cX9_raise 48 = .ok (.bipush 100, 2) := by decide +kernel
theorem dX9_raise_50 : decode cX9_raise 50 = .ok (.idiv, 1) := by decide +kernel
theorem dX9_raise_51 : decode cX9_raise 51 = .ok (.iload 5, 2) := by decide +kernel
theorem dX9_raise_53 : decode cX9_raise 53 = .ok (.bipush 100, 2) := by decide +kernel
theorem dX9_raise_55 : decode cX9_raise 55 = .ok (.irem, 1) := by decide +kernel
theorem dX9_raise_56 : decode cX9_raise 56 = .ok (.iastore, 1) := by decide +kernel
theorem dX9_raise_57 : decode cX9_raise 57 = .ok (.aload_n 0, 1) := by decide +kernel
theorem dX9_raise_58 : decode cX9_raise 58 = .ok (.getfield 9, 3) := by decide +kernel
theorem dX9_raise_61 : decode cX9_raise 61 = .ok (.iload_n 2, 1) := by decide +kernel
theorem dX9_raise_62 : decode cX9_raise 62 = .ok (.dup2, 1) := by decide +kernel
theorem dX9_raise_63 : decode cX9_raise 63 = .ok (.iaload, 1) := by decide +kernel
theorem dX9_raise_64 : decode cX9_raise 64 = .ok (.iconst 1, 1) := by decide +kernel
theorem dX9_raise_65 : decode cX9_raise 65 = .ok (.iadd, 1) := by decide +kernel
theorem dX9_raise_66 : decode cX9_raise 66 = .ok (.iastore, 1) := by decide +kernel
theorem dX9_raise_67 : decode cX9_raise 67 = .ok (.iinc 4 1, 3) := by decide +kernel
theorem dX9_raise_70 : decode cX9_raise 70 = .ok (.goto (-67), 3) := by decide +kernel
theorem dX9_raise_73 : decode cX9_raise 73 = .ok (.return_, 1) := by decide +kernel
set_option maxRecDepth 20000 in
theorem ggX9_goOn_X9_raise : GoodIn wsX9_goOn wsX9_raise := goodIn_r _ [13, 1, 2, 14, 4, 15, 16, 17, 18, 19, 20, 21] (by decide +kernel) (by decide +kernel)
set_option maxRecDepth 20000 in
theorem gX9_goOn_X9_raise : GoodIn wsX9_goOn (wsV RX9 45 RX9 yX9_raise wsX9_raise) := goodIn_app (goodIn_of _ (by decide +kernel)) ggX9_goOn_X9_raise
theorem dX9_goOn_0 : decode cX9_goOn 0 = .ok (.bipush 15, 2) := by decide +kernel
theorem dX9_goOn_2 : decode cX9_goOn 2 = .ok (.istore_n 2, 1) := by decide +kernel
theorem dX9_goOn_3 : decode cX9_goOn 3 = .ok (.iload_n 2, 1) := by decide +kernel
theorem dX9_goOn_4 : decode cX9_goOn 4 = .ok (.ifCond .lt 66, 3) := by decide +kernel
theorem dX9_goOn_7 : decode cX9_goOn 7 = .ok (.aload_n 0, 1) := by decide +kernel
theorem dX9_goOn_8 : decode cX9_goOn 8 = .ok (.getfield 9, 3) := by decide +kernel
theorem dX9_goOn_11 : decode cX9_goOn 11 = .ok (.iload_n 2, 1) := by decide +kernel
theorem dX9_goOn_12 : decode cX9_goOn 12 = .ok (.iaload, 1) := by decide +kernel
theorem dX9_goOn_13 : decode cX9_goOn 13 = .ok (.aload_n 1, 1) := by decide +kernel
theorem dX9_goOn_14 : decode cX9_goOn 14 = .ok (.getfield 42, 3) := by decide +kernel
theorem dX9_goOn_17 : decode cX9_goOn 17 = .ok (.iload_n 2, 1) := by decide +kernel
theorem dX9_goOn_18 : decode cX9_goOn 18 = .ok (.iaload, 1) := by decide +kernel
theorem dX9_goOn_19 : decode cX9_goOn 19 = .ok (.if_icmp .ge 11, 3) := by decide +kernel
theorem dX9_goOn_22 : decode cX9_goOn 22 = .ok (.aload_n 0, 1) := by decide +kernel
theorem dX9_goOn_23 : decode cX9_goOn 23 = .ok (.aload_n 1, 1) := by decide +kernel
theorem dX9_goOn_24 : decode cX9_goOn 24 = .ok (.iload_n 2, 1) := by decide +kernel
theorem dX9_goOn_25 : decode cX9_goOn 25 = .ok (.iconst 1, 1) := by decide +kernel
theorem dX9_goOn_26 : decode cX9_goOn 26 = .ok (.invokevirtual 45, 3) := by decide +kernel
theorem dX9_goOn_29 : decode cX9_goOn 29 = .ok (.return_, 1) := by decide +kernel
theorem dX9_goOn_30 : decode cX9_goOn 30 = .ok (.aload_n 0, 1) := by decide +kernel
theorem dX9_goOn_31 : decode cX9_goOn 31 = .ok (.getfield 9, 3) := by decide +kernel
theorem dX9_goOn_34 : decode cX9_goOn 34 = .ok (.iload_n 2, 1) := by decide +kernel
theorem dX9_goOn_35 : decode cX9_goOn 35 = .ok (.iaload, 1) := by decide +kernel
theorem dX9_goOn_36 : decode cX9_goOn 36 = .ok (.ifCond .le 28, 3) := by decide +kernel
theorem dX9_goOn_39 : decode cX9_goOn 39 = .ok (.aload_n 0, 1) := by decide +kernel
theorem dX9_goOn_40 : decode cX9_goOn 40 = .ok (.getfield 9, 3) := by decide +kernel
theorem dX9_goOn_43 : decode cX9_goOn 43 = .ok (.iload_n 2, 1) := by decide +kernel
theorem dX9_goOn_44 : decode cX9_goOn 44 = .ok (.iconst 0, 1) := by decide +kernel
theorem dX9_goOn_45 : decode cX9_goOn 45 = .ok (.iastore, 1) := by decide +kernel
theorem dX9_goOn_46 : decode cX9_goOn 46 = .ok (.aload_n 1, 1) := by decide +kernel
theorem dX9_goOn_47 : decode cX9_goOn 47 = .ok (.getfield 27, 3) := by decide +kernel
theorem dX9_goOn_50 : decode cX9_goOn 50 = .ok (.iload_n 2, 1) := by decide +kernel
theorem dX9_goOn_51 : decode cX9_goOn 51 = .ok (.iconst 4, 1) := by decide +kernel
theorem dX9_goOn_52 : decode cX9_goOn 52 = .ok (.imul, 1) := by decide +kernel
theorem dX9_goOn_53 : decode cX9_goOn 53 = .ok (.aload_n 0, 1) := by decide +kernel
theorem dX9_goOn_54 : decode cX9_goOn 54 = .ok (.getfield 15, 3) := by decide +kernel
theorem dX9_goOn_57 : decode cX9_goOn 57 = .ok (.iload_n 2, 1) := by decide +kernel
theorem dX9_goOn_58 : decode cX9_goOn 58 = .ok (.iconst 4, 1) := by decide +kernel
theorem dX9_goOn_59 : decode cX9_goOn 59 = .ok (.imul, 1) := by decide +kernel
theorem dX9_goOn_60 : decode cX9_goOn 60 = .ok (.iconst 4, 1) := by decide +kernel
theorem dX9_goOn_61 : decode cX9_goOn 61 = .ok (.invokestatic 32, 3) := by decide +kernel
theorem dX9_goOn_64 : decode cX9_goOn 64 = .ok (.iinc 2 (-1), 3) := by decide +kernel
theorem dX9_goOn_67 : decode cX9_goOn 67 = .ok (.goto (-64), 3) := by decide +kernel
theorem dX9_goOn_70 : decode cX9_goOn 70 = .ok (.return_, 1) := by decide +kernel
set_option maxRecDepth 20000 in
theorem ggX9_recoverPicture_X11_recoverWords : GoodIn wsX9_recoverPicture wsX11_recoverWords := goodIn_r _ [9, 10, 11, 12, 13, 14, 15, 8, 16, 17, 18, 19] (by decide +kernel) (by decide +kernel)
set_option maxRecDepth 20000 in
theorem gX9_recoverPicture_X11_recoverWords_n52 : GoodIn wsX9_recoverPicture (wsX11_recoverWords) := ggX9_recoverPicture_X11_recoverWords
theorem dX9_recoverPicture_0 : decode cX9_recoverPicture 0 = .ok (.aload_n 0, 1) := by decide +kernel
theorem dX9_recoverPicture_1 : decode cX9_recoverPicture 1 = .ok (.getfield 15, 3) := by decide +kernel
theorem dX9_recoverPicture_4 : decode cX9_recoverPicture 4 = .ok (.iconst 0, 1) := by decide +kernel
theorem dX9_recoverPicture_5 : decode cX9_recoverPicture 5 = .ok (.aload_n 0, 1) := by decide +kernel
theorem dX9_recoverPicture_6 : decode cX9_recoverPicture 6 = .ok (.getfield 18, 3) := by decide +kernel
theorem dX9_recoverPicture_9 : decode cX9_recoverPicture 9 = .ok (.iconst 0, 1) := by decide +kernel
theorem dX9_recoverPicture_10 : decode cX9_recoverPicture 10 = .ok (.bipush 64, 2) := by decide +kernel
theorem dX9_recoverPicture_12 : decode cX9_recoverPicture 12 = .ok (.invokestatic 32, 3) := by decide +kernel
theorem dX9_recoverPicture_15 : decode cX9_recoverPicture 15 = .ok (.aload_n 0, 1) := by decide +kernel
theorem dX9_recoverPicture_16 : decode cX9_recoverPicture 16 = .ok (.getfield 18, 3) := by decide +kernel
theorem dX9_recoverPicture_19 : decode cX9_recoverPicture 19 = .ok (.iload_n 1, 1) := by decide +kernel
theorem dX9_recoverPicture_20 : decode cX9_recoverPicture 20 = .ok (.invokestatic 52, 3) := by decide +kernel
theorem dX9_recoverPicture_23 : decode cX9_recoverPicture 23 = .ok (.return_, 1) := by decide +kernel
set_option maxRecDepth 20000 in
theorem ggX9_fateBy_X9_recoverPicture : GoodIn wsX9_fateBy wsX9_recoverPicture := goodIn_r _ [9, 10, 2, 11, 12, 13, 14, 15, 16, 17, 18, 19, 20, 21, 22, 23, 24, 25, 26, 27, 40, 41, 42] (by decide +kernel) (by decide +kernel)
set_option maxRecDepth 20000 in
theorem gX9_fateBy_X9_recoverPicture : GoodIn wsX9_fateBy (wsV RX9 61 RX9 yX9_recoverPicture wsX9_recoverPicture) := goodIn_app (goodIn_of _ (by decide +kernel)) ggX9_fateBy_X9_recoverPicture
theorem dX9_fateBy_0 : decode cX9_fateBy 0 = .ok (.aload_n 0, 1) := by decide +kernel
theorem dX9_fateBy_1 : decode cX9_fateBy 1 = .ok (.aload_n 1, 1) := by decide +kernel
theorem dX9_fateBy_2 : decode cX9_fateBy 2 = .ok (.getfield 55, 3) := by decide +kernel
theorem dX9_fateBy_5 : decode cX9_fateBy 5 = .ok (.invokevirtual 61, 3) := by decide +kernel
theorem dX9_fateBy_8 : decode cX9_fateBy 8 = .ok (.iconst 1, 1) := by decide +kernel
theorem dX9_fateBy_9 : decode cX9_fateBy 9 = .ok (.istore_n 2, 1) := by decide +kernel
theorem dX9_fateBy_10 : decode cX9_fateBy 10 = .ok (.iconst 1, 1) := by decide +kernel
theorem dX9_fateBy_11 : decode cX9_fateBy 11 = .ok (.istore_n 3, 1) := by decide +kernel
theorem dX9_fateBy_12 : decode cX9_fateBy 12 = .ok (.iconst 0, 1) := by decide +kernel
theorem dX9_fateBy_13 : decode cX9_fateBy 13 = .ok (.istore 4, 2) := by decide +kernel
theorem dX9_fateBy_15 : decode cX9_fateBy 15 = .ok (.iload 4, 2) := by decide +kernel
theorem dX9_fateBy_17 : decode cX9_fateBy 17 = .ok (.bipush 44, 2) := by decide +kernel
theorem dX9_fateBy_19 : decode cX9_fateBy 19 = .ok (.if_icmp .ge 73, 3) := by decide +kernel
theorem dX9_fateBy_22 : decode cX9_fateBy 22 = .ok (.iload_n 2, 1) := by decide +kernel
theorem dX9_fateBy_23 : decode cX9_fateBy 23 = .ok (.ifCond .ne 7, 3) := by decide +kernel
theorem dX9_fateBy_26 : decode cX9_fateBy 26 = .ok (.iload_n 3, 1) := by decide +kernel
theorem dX9_fateBy_27 : decode cX9_fateBy 27 = .ok (.ifCond .eq 65, 3) := by decide +kernel
theorem dX9_fateBy_30 : decode cX9_fateBy 30 = .ok (.aload_n 0, 1) := by decide +kernel
theorem dX9_fateBy_31 : decode cX9_fateBy 31 = .ok (.getfield 18, 3) := by decide +kernel
theorem dX9_fateBy_34 : decode cX9_fateBy 34 = .ok (.bipush 20, 2) := by decide +kernel
theorem dX9_fateBy_36 : decode cX9_fateBy 36 = .ok (.iload 4, 2) := by decide +kernel
theorem dX9_fateBy_38 : decode cX9_fateBy 38 = .ok (.iadd, 1) := by decide +kernel
theorem dX9_fateBy_39 : decode cX9_fateBy 39 = .ok (.iaload, 1) := by decide +kernel
theorem dX9_fateBy_40 : decode cX9_fateBy 40 = .ok (.istore 5, 2) := by decide +kernel
theorem dX9_fateBy_42 : decode cX9_fateBy 42 = .ok (.iload_n 2, 1) := by decide +kernel
theorem dX9_fateBy_43 : decode cX9_fateBy 43 = .ok (.ifCond .eq 19, 3) := by decide +kernel
theorem dX9_fateBy_46 : decode cX9_fateBy 46 = .ok (.iload 5, 2) := by decide +kernel
theorem dX9_fateBy_48 : decode cX9_fateBy 48 = .ok (.aload_n 1, 1) := by decide +kernel
theorem dX9_fateBy_49 : decode cX9_fateBy 49 = .ok (.getfield 65, 3) := by decide +kernel
theorem dX9_fateBy_52 : decode cX9_fateBy 52 = .ok (.iload 4, 2) := by decide +kernel
theorem dX9_fateBy_54 : decode cX9_fateBy 54 = .ok (.iaload, 1) := by decide +kernel
theorem dX9_fateBy_55 : decode cX9_fateBy 55 = .ok (.if_icmp .ne 7, 3) := by decide +kernel
theorem dX9_fateBy_58 : decode cX9_fateBy 58 = .ok (.iconst 1, 1) := by decide +kernel
theorem dX9_fateBy_59 : decode cX9_fateBy 59 = .ok (.goto 4, 3) := by decide +kernel
theorem dX9_fateBy_62 : decode cX9_fateBy 62 = .ok (.iconst 0, 1) := by decide +kernel
theorem dX9_fateBy_63 : decode cX9_fateBy 63 = .ok (.istore_n 2, 1) := by decide +kernel
theorem dX9_fateBy_64 : decode cX9_fateBy 64 = .ok (.iload_n 3, 1) := by decide +kernel
theorem dX9_fateBy_65 : decode cX9_fateBy 65 = .ok (.ifCond .eq 19, 3) := by decide +kernel
theorem dX9_fateBy_68 : decode cX9_fateBy 68 = .ok (.iload 5, 2) := by decide +kernel
theorem dX9_fateBy_70 : decode cX9_fateBy 70 = .ok (.aload_n 1, 1) := by decide +kernel
theorem dX9_fateBy_71 : decode cX9_fateBy 71 = .ok (.getfield 68, 3) := by decide +kernel
theorem dX9_fateBy_74 : decode cX9_fateBy 74 = .ok (.iload 4, 2) := by decide +kernel
theorem dX9_fateBy_76 : decode cX9_fateBy 76 = .ok (.iaload, 1) := by decide +kernel
theorem dX9_fateBy_77 : decode cX9_fateBy 77 = .ok (.if_icmp .ne 7, 3) := by decide +kernel
theorem dX9_fateBy_80 : decode cX9_fateBy 80 = .ok (.iconst 1, 1) := by decide +kernel
theorem dX9_fateBy_81 : decode cX9_fateBy 81 = .ok (.goto 4, 3) := by decide +kernel
theorem dX9_fateBy_84 : decode cX9_fateBy 84 = .ok (.iconst 0, 1) := by decide +kernel
theorem dX9_fateBy_85 : decode cX9_fateBy 85 = .ok (.istore_n 3, 1) := by decide +kernel
theorem dX9_fateBy_86 : decode cX9_fateBy 86 = .ok (.iinc 4 1, 3) := by decide +kernel
theorem dX9_fateBy_89 : decode cX9_fateBy 89 = .ok (.goto (-74), 3) := by decide +kernel
theorem dX9_fateBy_92 : decode cX9_fateBy 92 = .ok (.iload_n 2, 1) := by decide +kernel
theorem dX9_fateBy_93 : decode cX9_fateBy 93 = .ok (.ifCond .eq 13, 3) := by decide +kernel
theorem dX9_fateBy_96 : decode cX9_fateBy 96 = .ok (.iload_n 3, 1) := by decide +kernel
theorem dX9_fateBy_97 : decode cX9_fateBy 97 = .ok (.ifCond .eq 7, 3) := by decide +kernel
theorem dX9_fateBy_100 : decode cX9_fateBy 100 = .ok (.iconst 2, 1) := by decide +kernel
theorem dX9_fateBy_101 : decode cX9_fateBy 101 = .ok (.goto 4, 3) := by decide +kernel
theorem dX9_fateBy_104 : decode cX9_fateBy 104 = .ok (.iconst 0, 1) := by decide +kernel
theorem dX9_fateBy_105 : decode cX9_fateBy 105 = .ok (.ireturn, 1) := by decide +kernel
theorem dX9_fateBy_106 : decode cX9_fateBy 106 = .ok (.iload_n 3, 1) := by decide +kernel
theorem dX9_fateBy_107 : decode cX9_fateBy 107 = .ok (.ifCond .eq 7, 3) := by decide +kernel
theorem dX9_fateBy_110 : decode cX9_fateBy 110 = .ok (.iconst 1, 1) := by decide +kernel
theorem dX9_fateBy_111 : decode cX9_fateBy 111 = .ok (.goto 4, 3) := by decide +kernel
theorem dX9_fateBy_114 : decode cX9_fateBy 114 = .ok (.iconst 3, 1) := by decide +kernel
theorem dX9_fateBy_115 : decode cX9_fateBy 115 = .ok (.ireturn, 1) := by decide +kernel
set_option maxRecDepth 20000 in
theorem ggX10_init_X4_init : GoodIn wsX10_init wsX4_init := goodIn_r _ [20, 21, 2, 3, 22, 23, 24, 25, 26, 27, 28, 29, 30, 31, 32, 33, 34, 35, 36, 37, 38, 39, 40, 41, 42, 43, 44, 100, 101, 102, 103, 72, 73, 74, 75, 76, 77, 78, 79, 80, 81, 82, 83] (by decide +kernel) (by decide +kernel)
set_option maxRecDepth 20000 in
theorem gX10_init_X4_init_n11 : GoodIn wsX10_init (wsX4_init) := ggX10_init_X4_init
set_option maxRecDepth 20000 in
theorem ggX10_init_X5_init : GoodIn wsX10_init wsX5_init := goodIn_r _ [46, 47, 2, 3, 26, 48, 49, 50, 51, 52, 53, 54, 55, 56, 57, 58, 59, 60, 61, 62, 63, 64, 65, 90, 91, 92, 93, 94, 95, 96, 104, 105, 106, 107, 108] (by decide +kernel) (by decide +kernel)
set_option maxRecDepth 20000 in
theorem gX10_init_X5_init_n20 : GoodIn wsX10_init (wsX5_init) := ggX10_init_X5_init
set_option maxRecDepth 20000 in
theorem ggX10_init_X9_init : GoodIn wsX10_init wsX9_init := goodIn_r _ [67, 68, 2, 3, 26, 69, 70, 71, 97, 98, 99] (by decide +kernel) (by decide +kernel)
set_option maxRecDepth 20000 in
theorem gX10_init_X9_init_n27 : GoodIn wsX10_init (wsX9_init) := ggX10_init_X9_init
theorem dX10_init_0 : decode cX10_init 0 = .ok (.aload_n 0, 1) := by decide +kernel
theorem dX10_init_1 : decode cX10_init 1 = .ok (.invokespecial 3, 3) := by decide +kernel
theorem dX10_init_4 : decode cX10_init 4 = .ok (.aload_n 0, 1) := by decide +kernel
theorem dX10_init_5 : decode cX10_init 5 = .ok (.new 9, 3) := by decide +kernel
theorem dX10_init_8 : decode cX10_init 8 = .ok (.dup, 1) := by decide +kernel
theorem dX10_init_9 : decode cX10_init 9 = .ok (.invokespecial 11, 3) := by decide +kernel
theorem dX10_init_12 : decode cX10_init 12 = .ok (.putfield 12, 3) := by decide +kernel
theorem dX10_init_15 : decode cX10_init 15 = .ok (.aload_n 0, 1) := by decide +kernel
theorem dX10_init_16 : decode cX10_init 16 = .ok (.new 18, 3) := by decide +kernel
theorem dX10_init_19 : decode cX10_init 19 = .ok (.dup, 1) := by decide +kernel
theorem dX10_init_20 : decode cX10_init 20 = .ok (.invokespecial 20, 3) := by decide +kernel
theorem dX10_init_23 : decode cX10_init 23 = .ok (.putfield 21, 3) := by decide +kernel
theorem dX10_init_26 : decode cX10_init 26 = .ok (.aload_n 0, 1) := by decide +kernel
theorem dX10_init_27 : decode cX10_init 27 = .ok (.new 25, 3) := by decide +kernel
theorem dX10_init_30 : decode cX10_init 30 = .ok (.dup, 1) := by decide +kernel
theorem dX10_init_31 : decode cX10_init 31 = .ok (.invokespecial 27, 3) := by decide +kernel
theorem dX10_init_34 : decode cX10_init 34 = .ok (.putfield 28, 3) := by decide +kernel
theorem dX10_init_37 : decode cX10_init 37 = .ok (.aload_n 0, 1) := by decide +kernel
theorem dX10_init_38 : decode cX10_init 38 = .ok (.iconst 0, 1) := by decide +kernel
theorem dX10_init_39 : decode cX10_init 39 = .ok (.putfield 32, 3) := by decide +kernel
theorem dX10_init_42 : decode cX10_init 42 = .ok (.aload_n 0, 1) := by decide +kernel
theorem dX10_init_43 : decode cX10_init 43 = .ok (.iconst 0, 1) := by decide +kernel
theorem dX10_init_44 : decode cX10_init 44 = .ok (.putfield 36, 3) := by decide +kernel
theorem dX10_init_47 : decode cX10_init 47 = .ok (.aload_n 0, 1) := by decide +kernel
theorem dX10_init_48 : decode cX10_init 48 = .ok (.iconst 0, 1) := by decide +kernel
theorem dX10_init_49 : decode cX10_init 49 = .ok (.putfield 39, 3) := by decide +kernel
theorem dX10_init_52 : decode cX10_init 52 = .ok (.return_, 1) := by decide +kernel
set_option maxRecDepth 20000 in
theorem ggX10_start_X4_copyFrom : GoodIn wsX10_start wsX4_copyFrom := goodIn_r _ [9, 10, 11, 12, 13, 14, 15, 16, 17, 18, 19, 20, 21, 22, 23, 24, 25, 26, 27, 28, 29, 30, 31, 32, 33, 34, 35, 42, 43, 44, 45, 46, 47, 48, 49, 50, 51, 52, 53, 54, 55, 56, 57] (by decide +kernel) (by decide +kernel)
set_option maxRecDepth 20000 in
theorem gX10_start_X4_copyFrom : GoodIn wsX10_start (wsV RX10 42 RX4 yX4_copyFrom wsX4_copyFrom) := goodIn_app (goodIn_of _ (by decide +kernel)) ggX10_start_X4_copyFrom
theorem dX10_start_0 : decode cX10_start 0 = .ok (.aload_n 0, 1) := by decide +kernel
theorem dX10_start_1 : decode cX10_start 1 = .ok (.getfield 12, 3) := by decide +kernel
theorem dX10_start_4 : decode cX10_start 4 = .ok (.aload_n 1, 1) := by decide +kernel
theorem dX10_start_5 : decode cX10_start 5 = .ok (.invokevirtual 42, 3) := by decide +kernel
theorem dX10_start_8 : decode cX10_start 8 = .ok (.aload_n 0, 1) := by decide +kernel
theorem dX10_start_9 : decode cX10_start 9 = .ok (.iload_n 2, 1) := by decide +kernel
theorem dX10_start_10 : decode cX10_start 10 = .ok (.putfield 32, 3) := by decide +kernel
theorem dX10_start_13 : decode cX10_start 13 = .ok (.aload_n 0, 1) := by decide +kernel
theorem dX10_start_14 : decode cX10_start 14 = .ok (.iconst 0, 1) := by decide +kernel
theorem dX10_start_15 : decode cX10_start 15 = .ok (.putfield 36, 3) := by decide +kernel
theorem dX10_start_18 : decode cX10_start 18 = .ok (.aload_n 0, 1) := by decide +kernel
theorem dX10_start_19 : decode cX10_start 19 = .ok (.iconst 0, 1) := by decide +kernel
theorem dX10_start_20 : decode cX10_start 20 = .ok (.putfield 39, 3) := by decide +kernel
theorem dX10_start_23 : decode cX10_start 23 = .ok (.return_, 1) := by decide +kernel
set_option maxRecDepth 20000 in
theorem ggX10_passOne_X10_draw : GoodIn wsX10_passOne wsX10_draw := goodIn_r _ [13, 14, 15, 16, 17, 7, 18, 255, 256, 257, 258, 259, 260] (by decide +kernel) (by decide +kernel)
set_option maxRecDepth 20000 in
theorem gX10_passOne_X10_draw : GoodIn wsX10_passOne (wsV RX10 46 RX10 yX10_draw wsX10_draw) := goodIn_app (goodIn_of _ (by decide +kernel)) ggX10_passOne_X10_draw
set_option maxRecDepth 20000 in
theorem ggX10_passOne_X4_step : GoodIn wsX10_passOne wsX4_step := goodIn_r _ [23, 24, 25, 26, 27, 28, 29, 30, 31, 32, 33, 22, 34, 35, 36, 37, 38, 39, 40, 41, 42, 43, 44, 45, 46, 47, 48, 49, 50, 51, 52, 53, 54, 55, 56, 57, 58, 59, 60, 61, 62, 63, 64, 65, 66, 67, 68, 69, 70, 71, 72, 73, 74, 75, 76, 77, 78, 79, 80, 81, 82, 83, 84, 85, 86, 87, 88, 89, 90, 91, 92, 93, 94, 95, 96, 97, 98, 99, 100, 101, 102, 103, 104, 105, 106, 107, 108, 109, 110, 111, 112, 113, 114, 115, 116, 117, 118, 119, 120, 121, 122, 123, 124, 125, 126, 127, 128, 129, 130, 131, 132, 133, 134, 135, 136, 137, 138, 139, 140, 141, 142, 143, 144, 145, 146, 147, 148, 149, 150, 151, 152, 153, 154, 155, 156, 157, 158, 159, 160, 161, 162, 163, 164, 165, 17, 7, 18, 166, 167, 168, 169, 170, 171, 172, 173, 174, 175, 176, 177, 178, 261, 262, 263, 264, 265, 266, 267, 268, 269, 270, 271, 272, 277, 278, 279, 280, 281, 282, 283, 273, 274, 275, 276, 284, 285, 286, 287, 288] (by decide +kernel) (by decide +kernel)
set_option maxRecDepth 20000 in
theorem gX10_passOne_X4_step : GoodIn wsX10_passOne (wsV RX10 50 RX4 yX4_step wsX4_step) := goodIn_app (goodIn_of _ (by decide +kernel)) ggX10_passOne_X4_step
set_option maxRecDepth 20000 in
theorem ggX10_passOne_X1_reach : GoodIn wsX10_passOne wsX1_reach := goodIn_r _ [163, 49, 55, 54, 50, 51, 52, 53, 164, 165, 17, 7, 18, 273, 274, 275, 276] (by decide +kernel) (by decide +kernel)
set_option maxRecDepth 20000 in
theorem gX10_passOne_X1_reach : GoodIn wsX10_passOne (wsV RX10 70 RX1 yX1_reach wsX1_reach) := goodIn_app (goodIn_of _ (by decide +kernel)) ggX10_passOne_X1_reach
set_option maxRecDepth 20000 in
theorem ggX10_passOne_X10_fallAndRecover : GoodIn wsX10_passOne wsX10_fallAndRecover := goodIn_r _ [183, 1, 184, 185, 3, 4, 186, 187, 188, 189, 190, 191, 192, 193, 194, 195, 196, 51, 52, 53, 197, 198, 199, 200, 9, 10, 11, 12, 13, 14, 15, 16, 17, 7, 18, 201, 202, 203, 204, 205, 206, 207, 208, 209, 210, 211, 212, 213, 214, 215, 216, 217, 218, 219, 61, 220, 221, 6, 8, 222, 223, 224, 225, 226, 227, 228, 229, 230, 22, 231, 26, 232, 233, 24, 28, 234, 235, 236, 47, 237, 49, 50, 54, 164, 238, 239, 240, 241, 242, 178, 103, 109, 111, 112, 113, 114, 30, 35, 243, 244, 245, 246, 247, 110, 255, 256, 257, 258, 259, 260, 261, 262, 263, 264, 265, 266, 267, 268, 269, 270, 271, 272, 273, 274, 275, 276, 289, 290, 291] (by decide +kernel) (by decide +kernel)
set_option maxRecDepth 20000 in
theorem gX10_passOne_X10_fallAndRecover : GoodIn wsX10_passOne (wsV RX10 74 RX10 yX10_fallAndRecover wsX10_fallAndRecover) := goodIn_app (goodIn_of _ (by decide +kernel)) ggX10_passOne_X10_fallAndRecover
set_option maxRecDepth 20000 in
theorem ggX10_passOne_X11_packOp : GoodIn wsX10_passOne wsX11_packOp := goodIn_r _ [249, 250] (by decide +kernel) (by decide +kernel)
set_option maxRecDepth 20000 in
theorem gX10_passOne_X11_packOp_n77 : GoodIn wsX10_passOne (wsX11_packOp) := ggX10_passOne_X11_packOp
set_option maxRecDepth 20000 in
theorem ggX10_passOne_X4_addWaiting : GoodIn wsX10_passOne wsX4_addWaiting := goodIn_r _ [254, 25, 27, 261, 262, 263, 264, 265, 266, 267, 268, 269, 270, 271, 272] (by decide +kernel) (by decide +kernel)
set_option maxRecDepth 20000 in
theorem gX10_passOne_X4_addWaiting : GoodIn wsX10_passOne (wsV RX10 81 RX4 yX4_addWaiting wsX4_addWaiting) := goodIn_app (goodIn_of _ (by decide +kernel)) ggX10_passOne_X4_addWaiting
theorem dX10_passOne_0 : decode cX10_passOne 0 = .ok (.aload_n 0, 1) := by decide +kernel
theorem dX10_passOne_1 : decode cX10_passOne 1 = .ok (.bipush 8, 2) := by decide +kernel
theorem dX10_passOne_3 : decode cX10_passOne 3 = .ok (.invokevirtual 46, 3) := by decide +kernel
theorem dX10_passOne_6 : decode cX10_passOne 6 = .ok (.istore_n 1, 1) := by decide +kernel
theorem dX10_passOne_7 : decode cX10_passOne 7 = .ok (.iload_n 1, 1) := by decide +kernel
theorem dX10_passOne_8 : decode cX10_passOne 8 = .ok (.iconst 4, 1) := by decide +kernel
theorem dX10_passOne_9 : decode cX10_passOne 9 = .ok (.if_icmp .ge 39, 3) := by decide +kernel
theorem dX10_passOne_12 : decode cX10_passOne 12 = .ok (.aload_n 0, 1) := by decide +kernel
theorem dX10_passOne_13 : decode cX10_passOne 13 = .ok (.bipush 6, 2) := by decide +kernel
theorem dX10_passOne_15 : decode cX10_passOne 15 = .ok (.invokevirtual 46, 3) := by decide +kernel
theorem dX10_passOne_18 : decode cX10_passOne 18 = .ok (.iconst 1, 1) := by decide +kernel
theorem dX10_passOne_19 : decode cX10_passOne 19 = .ok (.iadd, 1) := by decide +kernel
theorem dX10_passOne_20 : decode cX10_passOne 20 = .ok (.istore_n 2, 1) := by decide +kernel
theorem dX10_passOne_21 : decode cX10_passOne 21 = .ok (.iload_n 2, 1) := by decide +kernel
theorem dX10_passOne_22 : decode cX10_passOne 22 = .ok (.ifCond .le 23, 3) := by decide +kernel
theorem dX10_passOne_25 : decode cX10_passOne 25 = .ok (.aload_n 0, 1) := by decide +kernel
theorem dX10_passOne_26 : decode cX10_passOne 26 = .ok (.getfield 12, 3) := by decide +kernel
theorem dX10_passOne_29 : decode cX10_passOne 29 = .ok (.aload_n 0, 1) := by decide +kernel
theorem dX10_passOne_30 : decode cX10_passOne 30 = .ok (.getfield 21, 3) := by decide +kernel
theorem dX10_passOne_33 : decode cX10_passOne 33 = .ok (.invokevirtual 50, 3) := by decide +kernel
theorem dX10_passOne_36 : decode cX10_passOne 36 = .ok (.ifCond .eq 9, 3) := by decide +kernel
theorem dX10_passOne_39 : decode cX10_passOne 39 = .ok (.iinc 2 (-1), 3) := by decide +kernel
theorem dX10_passOne_42 : decode cX10_passOne 42 = .ok (.goto (-21), 3) := by decide +kernel
theorem dX10_passOne_45 : decode cX10_passOne 45 = .ok (.goto 107, 3) := by decide +kernel
theorem dX10_passOne_48 : decode cX10_passOne 48 = .ok (.iload_n 1, 1) := by decide +kernel
theorem dX10_passOne_49 : decode cX10_passOne 49 = .ok (.iconst 4, 1) := by decide +kernel
theorem dX10_passOne_50 : decode cX10_passOne 50 = .ok (.if_icmp .ne 40, 3) := by decide +kernel
theorem dX10_passOne_53 : decode cX10_passOne 53 = .ok (.aload_n 0, 1) := by decide +kernel
theorem dX10_passOne_54 : decode cX10_passOne 54 = .ok (.bipush 16, 2) := by decide +kernel
theorem dX10_passOne_56 : decode cX10_passOne 56 = .ok (.invokevirtual 46, 3) := by decide +kernel
theorem dX10_passOne_59 : decode cX10_passOne 59 = .ok (.istore_n 2, 1) := by decide +kernel
theorem dX10_passOne_60 : decode cX10_passOne 60 = .ok (.aload_n 0, 1) := by decide +kernel
theorem dX10_passOne_61 : decode cX10_passOne 61 = .ok (.getfield 12, 3) := by decide +kernel
theorem dX10_passOne_64 : decode cX10_passOne 64 = .ok (.getfield 54, 3) := by decide +kernel
theorem dX10_passOne_67 : decode cX10_passOne 67 = .ok (.iload_n 2, 1) := by decide +kernel
theorem dX10_passOne_68 : decode cX10_passOne 68 = .ok (.iconst 1, 1) := by decide +kernel
theorem dX10_passOne_69 : decode cX10_passOne 69 = .ok (.aload_n 0, 1) := by decide +kernel
theorem dX10_passOne_70 : decode cX10_passOne 70 = .ok (.getfield 12, 3) := by decide +kernel
theorem dX10_passOne_73 : decode cX10_passOne 73 = .ok (.getfield 54, 3) := by decide +kernel
theorem dX10_passOne_76 : decode cX10_passOne 76 = .ok (.getfield 58, 3) := by decide +kernel
theorem dX10_passOne_79 : decode cX10_passOne 79 = .ok (.iload_n 2, 1) := by decide +kernel
theorem dX10_passOne_80 : decode cX10_passOne 80 = .ok (.iaload, 1) := by decide +kernel
theorem dX10_passOne_81 : decode cX10_passOne 81 = .ok (.invokestatic 64, 3) := by decide +kernel
theorem dX10_passOne_84 : decode cX10_passOne 84 = .ok (.invokevirtual 70, 3) := by decide +kernel
theorem dX10_passOne_87 : decode cX10_passOne 87 = .ok (.goto 65, 3) := by decide +kernel
theorem dX10_passOne_90 : decode cX10_passOne 90 = .ok (.iload_n 1, 1) := by decide +kernel
theorem dX10_passOne_91 : decode cX10_passOne 91 = .ok (.iconst 5, 1) := by decide +kernel
theorem dX10_passOne_92 : decode cX10_passOne 92 = .ok (.if_icmp .ne 10, 3) := by decide +kernel
theorem dX10_passOne_95 : decode cX10_passOne 95 = .ok (.aload_n 0, 1) := by decide +kernel
theorem dX10_passOne_96 : decode cX10_passOne 96 = .ok (.invokevirtual 74, 3) := by decide +kernel
theorem dX10_passOne_99 : decode cX10_passOne 99 = .ok (.goto 53, 3) := by decide +kernel
theorem dX10_passOne_102 : decode cX10_passOne 102 = .ok (.iload_n 1, 1) := by decide +kernel
theorem dX10_passOne_103 : decode cX10_passOne 103 = .ok (.bipush 6, 2) := by decide +kernel
theorem dX10_passOne_105 : decode cX10_passOne 105 = .ok (.if_icmp .ne 30, 3) := by decide +kernel
theorem dX10_passOne_108 : decode cX10_passOne 108 = .ok (.aload_n 0, 1) := by decide +kernel
theorem dX10_passOne_109 : decode cX10_passOne 109 = .ok (.iconst 4, 1) := by decide +kernel
theorem dX10_passOne_110 : decode cX10_passOne 110 = .ok (.invokevirtual 46, 3) := by decide +kernel
theorem dX10_passOne_113 : decode cX10_passOne 113 = .ok (.istore_n 2, 1) := by decide +kernel
theorem dX10_passOne_114 : decode cX10_passOne 114 = .ok (.aload_n 0, 1) := by decide +kernel
theorem dX10_passOne_115 : decode cX10_passOne 115 = .ok (.getfield 12, 3) := by decide +kernel
theorem dX10_passOne_118 : decode cX10_passOne 118 = .ok (.iconst 0, 1) := by decide +kernel
theorem dX10_passOne_119 : decode cX10_passOne 119 = .ok (.iload_n 2, 1) := by decide +kernel
theorem dX10_passOne_120 : decode cX10_passOne 120 = .ok (.aload_n 0, 1) := by decide +kernel
theorem dX10_passOne_121 : decode cX10_passOne 121 = .ok (.bipush 10, 2) := by decide +kernel
theorem dX10_passOne_123 : decode cX10_passOne 123 = .ok (.invokevirtual 46, 3) := by decide +kernel
theorem dX10_passOne_126 : decode cX10_passOne 126 = .ok (.invokestatic 77, 3) := by decide +kernel
theorem dX10_passOne_129 : decode cX10_passOne 129 = .ok (.invokevirtual 81, 3) := by decide +kernel
theorem dX10_passOne_132 : decode cX10_passOne 132 = .ok (.goto 20, 3) := by decide +kernel
theorem dX10_passOne_135 : decode cX10_passOne 135 = .ok (.aload_n 0, 1) := by decide +kernel
theorem dX10_passOne_136 : decode cX10_passOne 136 = .ok (.getfield 12, 3) := by decide +kernel
theorem dX10_passOne_139 : decode cX10_passOne 139 = .ok (.iconst 1, 1) := by decide +kernel
theorem dX10_passOne_140 : decode cX10_passOne 140 = .ok (.aload_n 0, 1) := by decide +kernel
theorem dX10_passOne_141 : decode cX10_passOne 141 = .ok (.iconst 4, 1) := by decide +kernel
theorem dX10_passOne_142 : decode cX10_passOne 142 = .ok (.invokevirtual 46, 3) := by decide +kernel
theorem dX10_passOne_145 : decode cX10_passOne 145 = .ok (.iconst 0, 1) := by decide +kernel
theorem dX10_passOne_146 : decode cX10_passOne 146 = .ok (.invokestatic 77, 3) := by decide +kernel
theorem dX10_passOne_149 : decode cX10_passOne 149 = .ok (.invokevirtual 81, 3) := by decide +kernel
theorem dX10_passOne_152 : decode cX10_passOne 152 = .ok (.return_, 1) := by decide +kernel
set_option maxRecDepth 20000 in
theorem ggX10_fallAndRecover_X9_start : GoodIn wsX10_fallAndRecover wsX9_start := goodIn_r _ [12, 13, 14, 15, 16, 17, 18, 19, 20, 21, 22, 23, 126, 127, 128, 122, 123, 124, 125] (by decide +kernel) (by decide +kernel)
set_option maxRecDepth 20000 in
theorem gX10_fallAndRecover_X9_start : GoodIn wsX10_fallAndRecover (wsV RX10 88 RX9 yX9_start wsX9_start) := goodIn_app (goodIn_of _ (by decide +kernel)) ggX10_fallAndRecover_X9_start
set_option maxRecDepth 20000 in
theorem ggX10_fallAndRecover_X10_draw : GoodIn wsX10_fallAndRecover wsX10_draw := goodIn_r _ [28, 29, 30, 31, 32, 33, 34, 104, 105, 106, 107, 108, 109] (by decide +kernel) (by decide +kernel)
set_option maxRecDepth 20000 in
theorem gX10_fallAndRecover_X10_draw : GoodIn wsX10_fallAndRecover (wsV RX10 46 RX10 yX10_draw wsX10_draw) := goodIn_app (goodIn_of _ (by decide +kernel)) ggX10_fallAndRecover_X10_draw
set_option maxRecDepth 20000 in
theorem ggX10_fallAndRecover_X9_raise : GoodIn wsX10_fallAndRecover wsX9_raise := goodIn_r _ [38, 13, 39, 40, 15, 126, 127, 128, 122, 123, 124, 125] (by decide +kernel) (by decide +kernel)
set_option maxRecDepth 20000 in
theorem gX10_fallAndRecover_X9_raise : GoodIn wsX10_fallAndRecover (wsV RX10 92 RX9 yX9_raise wsX9_raise) := goodIn_app (goodIn_of _ (by decide +kernel)) ggX10_fallAndRecover_X9_raise
set_option maxRecDepth 20000 in
theorem ggX10_fallAndRecover_X9_fateBy : GoodIn wsX10_fallAndRecover wsX9_fateBy := goodIn_r _ [44, 45, 46, 47, 48, 49, 50, 51, 11, 52, 15, 16, 17, 18, 19, 53, 54, 55, 56, 57, 33, 58, 59, 60, 61, 62, 63, 64, 110, 111, 112, 113, 114, 115, 116, 117, 118, 119, 120, 121, 126, 127, 128] (by decide +kernel) (by decide +kernel)
set_option maxRecDepth 20000 in
theorem gX10_fallAndRecover_X9_fateBy : GoodIn wsX10_fallAndRecover (wsV RX10 96 RX9 yX9_fateBy wsX9_fateBy) := goodIn_app (goodIn_of _ (by decide +kernel)) ggX10_fallAndRecover_X9_fateBy
set_option maxRecDepth 20000 in
theorem ggX10_fallAndRecover_X4_fall : GoodIn wsX10_fallAndRecover wsX4_fall := goodIn_r _ [69, 70, 71, 72, 73, 74, 75, 76, 77, 78, 79, 80, 81, 17, 18, 19, 82, 83, 84, 21, 22, 23, 85, 86, 87, 68, 88, 89, 90, 91, 92, 93, 94, 95, 96, 97, 110, 111, 112, 113, 114, 115, 116, 117, 118, 119, 120, 121, 126, 127, 128, 122, 123, 124, 125] (by decide +kernel) (by decide +kernel)
set_option maxRecDepth 20000 in
theorem gX10_fallAndRecover_X4_fall : GoodIn wsX10_fallAndRecover (wsV RX10 100 RX4 yX4_fall wsX4_fall) := goodIn_app (goodIn_of _ (by decide +kernel)) ggX10_fallAndRecover_X4_fall
set_option maxRecDepth 20000 in
theorem ggX10_fallAndRecover_X4_recoverAtOnce : GoodIn wsX10_fallAndRecover wsX4_recoverAtOnce := goodIn_r _ [101, 70, 102, 103, 73, 53, 54, 55, 56, 57, 33, 58, 59, 60, 61, 62, 63, 64, 110, 111, 112, 113, 114, 115, 116, 117, 118, 119, 120, 121, 122, 123, 124, 125] (by decide +kernel) (by decide +kernel)
set_option maxRecDepth 20000 in
theorem gX10_fallAndRecover_X4_recoverAtOnce : GoodIn wsX10_fallAndRecover (wsV RX10 104 RX4 yX4_recoverAtOnce wsX4_recoverAtOnce) := goodIn_app (goodIn_of _ (by decide +kernel)) ggX10_fallAndRecover_X4_recoverAtOnce
theorem dX10_fallAndRecover_0 : decode cX10_fallAndRecover 0 = .ok (.aload_n 0, 1) := by decide +kernel
theorem dX10_fallAndRecover_1 : decode cX10_fallAndRecover 1 = .ok (.getfield 12, 3) := by decide +kernel
theorem dX10_fallAndRecover_4 : decode cX10_fallAndRecover 4 = .ok (.getfield 85, 3) := by decide +kernel
theorem dX10_fallAndRecover_7 : decode cX10_fallAndRecover 7 = .ok (.iconst 1, 1) := by decide +kernel
theorem dX10_fallAndRecover_8 : decode cX10_fallAndRecover 8 = .ok (.if_icmp .eq 129, 3) := by decide +kernel
theorem dX10_fallAndRecover_11 : decode cX10_fallAndRecover 11 = .ok (.aload_n 0, 1) := by decide +kernel
theorem dX10_fallAndRecover_12 : decode cX10_fallAndRecover 12 = .ok (.getfield 28, 3) := by decide +kernel
theorem dX10_fallAndRecover_15 : decode cX10_fallAndRecover 15 = .ok (.aload_n 0, 1) := by decide +kernel
theorem dX10_fallAndRecover_16 : decode cX10_fallAndRecover 16 = .ok (.getfield 12, 3) := by decide +kernel
theorem dX10_fallAndRecover_19 : decode cX10_fallAndRecover 19 = .ok (.getfield 54, 3) := by decide +kernel
theorem dX10_fallAndRecover_22 : decode cX10_fallAndRecover 22 = .ok (.invokevirtual 88, 3) := by decide +kernel
theorem dX10_fallAndRecover_25 : decode cX10_fallAndRecover 25 = .ok (.iconst 0, 1) := by decide +kernel
theorem dX10_fallAndRecover_26 : decode cX10_fallAndRecover 26 = .ok (.istore_n 1, 1) := by decide +kernel
theorem dX10_fallAndRecover_27 : decode cX10_fallAndRecover 27 = .ok (.iload_n 1, 1) := by decide +kernel
theorem dX10_fallAndRecover_28 : decode cX10_fallAndRecover 28 = .ok (.bipush 16, 2) := by decide +kernel
theorem dX10_fallAndRecover_30 : decode cX10_fallAndRecover 30 = .ok (.if_icmp .ge 57, 3) := by decide +kernel
theorem dX10_fallAndRecover_33 : decode cX10_fallAndRecover 33 = .ok (.aload_n 0, 1) := by decide +kernel
theorem dX10_fallAndRecover_34 : decode cX10_fallAndRecover 34 = .ok (.getfield 12, 3) := by decide +kernel
theorem dX10_fallAndRecover_37 : decode cX10_fallAndRecover 37 = .ok (.getfield 54, 3) := by decide +kernel
theorem dX10_fallAndRecover_40 : decode cX10_fallAndRecover 40 = .ok (.getfield 58, 3) := by decide +kernel
theorem dX10_fallAndRecover_43 : decode cX10_fallAndRecover 43 = .ok (.iload_n 1, 1) := by decide +kernel
theorem dX10_fallAndRecover_44 : decode cX10_fallAndRecover 44 = .ok (.iaload, 1) := by decide +kernel
theorem dX10_fallAndRecover_45 : decode cX10_fallAndRecover 45 = .ok (.ifCond .le 36, 3) := by decide +kernel
theorem dX10_fallAndRecover_48 : decode cX10_fallAndRecover 48 = .ok (.aload_n 0, 1) := by decide +kernel
theorem dX10_fallAndRecover_49 : decode cX10_fallAndRecover 49 = .ok (.getfield 28, 3) := by decide +kernel
theorem dX10_fallAndRecover_52 : decode cX10_fallAndRecover 52 = .ok (.aload_n 0, 1) := by decide +kernel
theorem dX10_fallAndRecover_53 : decode cX10_fallAndRecover 53 = .ok (.getfield 12, 3) := by decide +kernel
theorem dX10_fallAndRecover_56 : decode cX10_fallAndRecover 56 = .ok (.getfield 54, 3) := by decide +kernel
theorem dX10_fallAndRecover_59 : decode cX10_fallAndRecover 59 = .ok (.iload_n 1, 1) := by decide +kernel
theorem dX10_fallAndRecover_60 : decode cX10_fallAndRecover 60 = .ok (.aload_n 0, 1) := by decide +kernel
theorem dX10_fallAndRecover_61 : decode cX10_fallAndRecover 61 = .ok (.aload_n 0, 1) := by decide +kernel
theorem dX10_fallAndRecover_62 : decode cX10_fallAndRecover 62 = .ok (.getfield 12, 3) := by decide +kernel
theorem dX10_fallAndRecover_65 : decode cX10_fallAndRecover 65 = .ok (.getfield 54, 3) := by decide +kernel
theorem dX10_fallAndRecover_68 : decode cX10_fallAndRecover 68 = .ok (.getfield 58, 3) := by decide +kernel
theorem dX10_fallAndRecover_71 : decode cX10_fallAndRecover 71 = .ok (.iload_n 1, 1) := by decide +kernel
theorem dX10_fallAndRecover_72 : decode cX10_fallAndRecover 72 = .ok (.iaload, 1) := by decide +kernel
theorem dX10_fallAndRecover_73 : decode cX10_fallAndRecover 73 = .ok (.iconst 1, 1) := by decide +kernel
theorem dX10_fallAndRecover_74 : decode cX10_fallAndRecover 74 = .ok (.iadd, 1) := by decide +kernel
theorem dX10_fallAndRecover_75 : decode cX10_fallAndRecover 75 = .ok (.invokevirtual 46, 3) := by decide +kernel
theorem dX10_fallAndRecover_78 : decode cX10_fallAndRecover 78 = .ok (.invokevirtual 92, 3) := by decide +kernel
theorem dX10_fallAndRecover_81 : decode cX10_fallAndRecover 81 = .ok (.iinc 1 1, 3) := by decide +kernel
theorem dX10_fallAndRecover_84 : decode cX10_fallAndRecover 84 = .ok (.goto (-57), 3) := by decide +kernel
theorem dX10_fallAndRecover_87 : decode cX10_fallAndRecover 87 = .ok (.aload_n 0, 1) := by decide +kernel
theorem dX10_fallAndRecover_88 : decode cX10_fallAndRecover 88 = .ok (.dup, 1) := by decide +kernel
theorem dX10_fallAndRecover_89 : decode cX10_fallAndRecover 89 = .ok (.getfield 36, 3) := by decide +kernel
theorem dX10_fallAndRecover_92 : decode cX10_fallAndRecover 92 = .ok (.iconst 1, 1) := by decide +kernel
theorem dX10_fallAndRecover_93 : decode cX10_fallAndRecover 93 = .ok (.iadd, 1) := by decide +kernel
theorem dX10_fallAndRecover_94 : decode cX10_fallAndRecover 94 = .ok (.putfield 36, 3) := by decide +kernel
theorem dX10_fallAndRecover_97 : decode cX10_fallAndRecover 97 = .ok (.aload_n 0, 1) := by decide +kernel
theorem dX10_fallAndRecover_98 : decode cX10_fallAndRecover 98 = .ok (.dup, 1) := by decide +kernel
theorem dX10_fallAndRecover_99 : decode cX10_fallAndRecover 99 = .ok (.getfield 39, 3) := by decide +kernel
theorem dX10_fallAndRecover_102 : decode cX10_fallAndRecover 102 = .ok (.aload_n 0, 1) := by decide +kernel
theorem dX10_fallAndRecover_103 : decode cX10_fallAndRecover 103 = .ok (.getfield 28, 3) := by decide +kernel
theorem dX10_fallAndRecover_106 : decode cX10_fallAndRecover 106 = .ok (.aload_n 0, 1) := by decide +kernel
theorem dX10_fallAndRecover_107 : decode cX10_fallAndRecover 107 = .ok (.getfield 12, 3) := by decide +kernel
theorem dX10_fallAndRecover_110 : decode cX10_fallAndRecover 110 = .ok (.invokevirtual 96, 3) := by decide +kernel
theorem dX10_fallAndRecover_113 : decode cX10_fallAndRecover 113 = .ok (.iconst 3, 1) := by decide +kernel
theorem dX10_fallAndRecover_114 : decode cX10_fallAndRecover 114 = .ok (.if_icmp .ne 7, 3) := by decide +kernel
theorem dX10_fallAndRecover_117 : decode cX10_fallAndRecover 117 = .ok (.iconst 1, 1) := by decide +kernel
theorem dX10_fallAndRecover_118 : decode cX10_fallAndRecover 118 = .ok (.goto 4, 3) := by decide +kernel
theorem dX10_fallAndRecover_121 : decode cX10_fallAndRecover 121 = .ok (.iconst 0, 1) := by decide +kernel
theorem dX10_fallAndRecover_122 : decode cX10_fallAndRecover 122 = .ok (.iadd, 1) := by decide +kernel
theorem dX10_fallAndRecover_123 : decode cX10_fallAndRecover 123 = .ok (.putfield 39, 3) := by decide +kernel
theorem dX10_fallAndRecover_126 : decode cX10_fallAndRecover 126 = .ok (.aload_n 0, 1) := by decide +kernel
theorem dX10_fallAndRecover_127 : decode cX10_fallAndRecover 127 = .ok (.getfield 12, 3) := by decide +kernel
theorem dX10_fallAndRecover_130 : decode cX10_fallAndRecover 130 = .ok (.aload_n 0, 1) := by decide +kernel
theorem dX10_fallAndRecover_131 : decode cX10_fallAndRecover 131 = .ok (.getfield 28, 3) := by decide +kernel
theorem dX10_fallAndRecover_134 : decode cX10_fallAndRecover 134 = .ok (.invokevirtual 100, 3) := by decide +kernel
theorem dX10_fallAndRecover_137 : decode cX10_fallAndRecover 137 = .ok (.aload_n 0, 1) := by decide +kernel
theorem dX10_fallAndRecover_138 : decode cX10_fallAndRecover 138 = .ok (.getfield 12, 3) := by decide +kernel
theorem dX10_fallAndRecover_141 : decode cX10_fallAndRecover 141 = .ok (.invokevirtual 104, 3) := by decide +kernel
theorem dX10_fallAndRecover_144 : decode cX10_fallAndRecover 144 = .ok (.return_, 1) := by decide +kernel
theorem dX10_draw_0 : decode cX10_draw 0 = .ok (.aload_n 0, 1) := by decide +kernel
theorem dX10_draw_1 : decode cX10_draw 1 = .ok (.aload_n 0, 1) := by decide +kernel
theorem dX10_draw_2 : decode cX10_draw 2 = .ok (.getfield 32, 3) := by decide +kernel
theorem dX10_draw_5 : decode cX10_draw 5 = .ok (.ldc 107, 2) := by decide +kernel
theorem dX10_draw_7 : decode cX10_draw 7 = .ok (.imul, 1) := by decide +kernel
theorem dX10_draw_8 : decode cX10_draw 8 = .ok (.sipush 12345, 3) := by decide +kernel
theorem dX10_draw_11 : decode cX10_draw 11 = .ok (.iadd, 1) := by decide +kernel
theorem dX10_draw_12 : decode cX10_draw 12 = .ok (.putfield 32, 3) := by decide +kernel
theorem dX10_draw_15 : decode cX10_draw 15 = .ok (.aload_n 0, 1) := by decide +kernel
theorem dX10_draw_16 : decode cX10_draw 16 = .ok (.getfield 32, 3) := by decide +kernel
theorem dX10_draw_19 : decode cX10_draw 19 = .ok (.bipush 16, 2) := by decide +kernel
theorem dX10_draw_21 : decode cX10_draw 21 = .ok (.iushr, 1) := by decide +kernel
theorem dX10_draw_22 : decode cX10_draw 22 = .ok (.sipush 32767, 3) := by decide +kernel
theorem dX10_draw_25 : decode cX10_draw 25 = .ok (.iand, 1) := by decide +kernel
theorem dX10_draw_26 : decode cX10_draw 26 = .ok (.iload_n 1, 1) := by decide +kernel
theorem dX10_draw_27 : decode cX10_draw 27 = .ok (.iconst 1, 1) := by decide +kernel
theorem dX10_draw_28 : decode cX10_draw 28 = .ok (.invokestatic 108, 3) := by decide +kernel
theorem dX10_draw_31 : decode cX10_draw 31 = .ok (.irem, 1) := by decide +kernel
theorem dX10_draw_32 : decode cX10_draw 32 = .ok (.ireturn, 1) := by decide +kernel
set_option maxRecDepth 20000 in
theorem ggX11_init_X0_init : GoodIn wsX11_init wsX0_init := goodIn_r _ [43, 44, 2, 3, 45, 46, 47, 48, 49, 50, 51, 52, 4, 53, 54, 55, 56, 57, 58, 59, 60, 61, 62, 63, 64, 65, 66, 67, 68, 69, 70, 71, 72, 73, 74, 75, 76, 77, 78, 79, 80, 81, 82, 83, 84, 85, 86, 87, 219, 220, 221, 222, 223, 224, 225, 226, 227, 228, 229, 230, 173, 174, 175, 176, 177, 231, 232, 233, 234, 235, 236, 237] (by decide +kernel) (by decide +kernel)
set_option maxRecDepth 20000 in
theorem gX11_init_X0_init_n22 : GoodIn wsX11_init (wsX0_init) := ggX11_init_X0_init
set_option maxRecDepth 20000 in
theorem ggX11_init_X5_init : GoodIn wsX11_init wsX5_init := goodIn_r _ [89, 90, 2, 3, 4, 91, 92, 93, 94, 95, 96, 97, 23, 24, 98, 99, 100, 101, 102, 103, 104, 105, 106, 178, 179, 180, 181, 182, 183, 184, 188, 189, 190, 191, 192] (by decide +kernel) (by decide +kernel)
set_option maxRecDepth 20000 in
theorem gX11_init_X5_init_n36 : GoodIn wsX11_init (wsX5_init) := ggX11_init_X5_init
set_option maxRecDepth 20000 in
theorem ggX11_init_X9_init : GoodIn wsX11_init wsX9_init := goodIn_r _ [108, 109, 2, 3, 4, 110, 111, 112, 185, 186, 187] (by decide +kernel) (by decide +kernel)
set_option maxRecDepth 20000 in
theorem gX11_init_X9_init_n43 : GoodIn wsX11_init (wsX9_init) := ggX11_init_X9_init
set_option maxRecDepth 20000 in
theorem ggX11_init_X7_init : GoodIn wsX11_init wsX7_init := goodIn_r _ [100, 101, 2, 3, 102, 103, 104, 105, 106, 188, 189, 190, 191, 192] (by decide +kernel) (by decide +kernel)
set_option maxRecDepth 20000 in
theorem gX11_init_X7_init_n50 : GoodIn wsX11_init (wsX7_init) := ggX11_init_X7_init
set_option maxRecDepth 20000 in
theorem ggX11_init_X8_init : GoodIn wsX11_init wsX8_init := goodIn_r _ [114, 115, 2, 3, 4, 116, 117, 193, 194] (by decide +kernel) (by decide +kernel)
set_option maxRecDepth 20000 in
theorem gX11_init_X8_init_n57 : GoodIn wsX11_init (wsX8_init) := ggX11_init_X8_init
set_option maxRecDepth 20000 in
theorem ggX11_init_X2_init : GoodIn wsX11_init wsX2_init := goodIn_r _ [119, 120, 2, 3, 121, 46, 47, 122, 123, 15, 16, 124, 125, 19, 20, 126, 127, 128, 129, 130, 56, 57, 58, 59, 60, 61, 62, 4, 63, 64, 65, 66, 67, 68, 69, 70, 71, 72, 73, 74, 75, 76, 77, 78, 79, 80, 88, 89, 90, 91, 92, 93, 94, 95, 96, 97, 23, 24, 98, 99, 100, 101, 102, 103, 104, 105, 106, 107, 108, 109, 110, 111, 112, 219, 220, 221, 222, 223, 224, 225, 226, 227, 228, 229, 230, 195, 196, 197, 198, 199, 200, 201, 178, 179, 180, 181, 182, 183, 184, 185, 186, 187, 234, 235, 236, 237, 188, 189, 190, 191, 192] (by decide +kernel) (by decide +kernel)
set_option maxRecDepth 20000 in
theorem gX11_init_X2_init_n64 : GoodIn wsX11_init (wsX2_init) := ggX11_init_X2_init
set_option maxRecDepth 20000 in
theorem ggX11_init_X10_init : GoodIn wsX11_init wsX10_init := goodIn_r _ [132, 133, 2, 3, 134, 46, 47, 135, 136, 15, 16, 137, 138, 19, 20, 139, 140, 141, 142, 56, 57, 58, 59, 60, 61, 62, 4, 63, 64, 65, 66, 67, 68, 69, 70, 71, 72, 73, 74, 75, 76, 77, 78, 79, 80, 88, 89, 90, 91, 92, 93, 94, 95, 96, 97, 23, 24, 98, 99, 100, 101, 102, 103, 104, 105, 106, 107, 108, 109, 110, 111, 112, 219, 220, 221, 222, 223, 224, 225, 226, 227, 228, 229, 230, 202, 203, 204, 205, 206, 207, 178, 179, 180, 181, 182, 183, 184, 185, 186, 187, 234, 235, 236, 237, 188, 189, 190, 191, 192] (by decide +kernel) (by decide +kernel)
set_option maxRecDepth 20000 in
theorem gX11_init_X10_init_n71 : GoodIn wsX11_init (wsX10_init) := ggX11_init_X10_init
set_option maxRecDepth 20000 in
theorem ggX11_init_X6_init : GoodIn wsX11_init wsX6_init := goodIn_r _ [144, 145, 2, 3, 146, 46, 47, 147, 148, 149, 150, 4, 151, 152, 153, 154, 155, 156, 157, 158, 159, 56, 57, 58, 59, 60, 61, 62, 63, 64, 65, 66, 67, 68, 69, 70, 71, 72, 73, 74, 75, 76, 77, 78, 79, 80, 219, 220, 221, 222, 223, 224, 225, 226, 227, 228, 229, 230, 208, 209, 210, 211, 212, 213, 214, 215, 216, 217, 218, 234, 235, 236, 237] (by decide +kernel) (by decide +kernel)
set_option maxRecDepth 20000 in
theorem gX11_init_X6_init_n78 : GoodIn wsX11_init (wsX6_init) := ggX11_init_X6_init
theorem dX11_init_0 : decode cX11_init 0 = .ok (.aload_n 0, 1) := by decide +kernel
theorem dX11_init_1 : decode cX11_init 1 = .ok (.invokespecial 1, 3) := by decide +kernel
theorem dX11_init_4 : decode cX11_init 4 = .ok (.aload_n 0, 1) := by decide +kernel
theorem dX11_init_5 : decode cX11_init 5 = .ok (.sipush 700, 3) := by decide +kernel
theorem dX11_init_8 : decode cX11_init 8 = .ok (.newarray .int, 2) := by decide +kernel
theorem dX11_init_10 : decode cX11_init 10 = .ok (.putfield 9, 3) := by decide +kernel
theorem dX11_init_13 : decode cX11_init 13 = .ok (.aload_n 0, 1) := by decide +kernel
theorem dX11_init_14 : decode cX11_init 14 = .ok (.iconst 0, 1) := by decide +kernel
theorem dX11_init_15 : decode cX11_init 15 = .ok (.putfield 13, 3) := by decide +kernel
theorem dX11_init_18 : decode cX11_init 18 = .ok (.aload_n 0, 1) := by decide +kernel
theorem dX11_init_19 : decode cX11_init 19 = .ok (.iconst (-1), 1) := by decide +kernel
theorem dX11_init_20 : decode cX11_init 20 = .ok (.putfield 17, 3) := by decide +kernel
theorem dX11_init_23 : decode cX11_init 23 = .ok (.aload_n 0, 1) := by decide +kernel
theorem dX11_init_24 : decode cX11_init 24 = .ok (.new 20, 3) := by decide +kernel
theorem dX11_init_27 : decode cX11_init 27 = .ok (.dup, 1) := by decide +kernel
theorem dX11_init_28 : decode cX11_init 28 = .ok (.invokespecial 22, 3) := by decide +kernel
theorem dX11_init_31 : decode cX11_init 31 = .ok (.putfield 23, 3) := by decide +kernel
theorem dX11_init_34 : decode cX11_init 34 = .ok (.aload_n 0, 1) := by decide +kernel
theorem dX11_init_35 : decode cX11_init 35 = .ok (.aconst_null, 1) := by decide +kernel
theorem dX11_init_36 : decode cX11_init 36 = .ok (.putfield 27, 3) := by decide +kernel
theorem dX11_init_39 : decode cX11_init 39 = .ok (.aload_n 0, 1) := by decide +kernel
theorem dX11_init_40 : decode cX11_init 40 = .ok (.iconst 0, 1) := by decide +kernel
theorem dX11_init_41 : decode cX11_init 41 = .ok (.putfield 30, 3) := by decide +kernel
theorem dX11_init_44 : decode cX11_init 44 = .ok (.aload_n 0, 1) := by decide +kernel
theorem dX11_init_45 : decode cX11_init 45 = .ok (.new 34, 3) := by decide +kernel
theorem dX11_init_48 : decode cX11_init 48 = .ok (.dup, 1) := by decide +kernel
theorem dX11_init_49 : decode cX11_init 49 = .ok (.invokespecial 36, 3) := by decide +kernel
theorem dX11_init_52 : decode cX11_init 52 = .ok (.putfield 37, 3) := by decide +kernel
theorem dX11_init_55 : decode cX11_init 55 = .ok (.aload_n 0, 1) := by decide +kernel
theorem dX11_init_56 : decode cX11_init 56 = .ok (.new 41, 3) := by decide +kernel
theorem dX11_init_59 : decode cX11_init 59 = .ok (.dup, 1) := by decide +kernel
theorem dX11_init_60 : decode cX11_init 60 = .ok (.invokespecial 43, 3) := by decide +kernel
theorem dX11_init_63 : decode cX11_init 63 = .ok (.putfield 44, 3) := by decide +kernel
theorem dX11_init_66 : decode cX11_init 66 = .ok (.aload_n 0, 1) := by decide +kernel
theorem dX11_init_67 : decode cX11_init 67 = .ok (.new 48, 3) := by decide +kernel
theorem dX11_init_70 : decode cX11_init 70 = .ok (.dup, 1) := by decide +kernel
theorem dX11_init_71 : decode cX11_init 71 = .ok (.invokespecial 50, 3) := by decide +kernel
theorem dX11_init_74 : decode cX11_init 74 = .ok (.putfield 51, 3) := by decide +kernel
theorem dX11_init_77 : decode cX11_init 77 = .ok (.aload_n 0, 1) := by decide +kernel
theorem dX11_init_78 : decode cX11_init 78 = .ok (.new 55, 3) := by decide +kernel
theorem dX11_init_81 : decode cX11_init 81 = .ok (.dup, 1) := by decide +kernel
theorem dX11_init_82 : decode cX11_init 82 = .ok (.invokespecial 57, 3) := by decide +kernel
theorem dX11_init_85 : decode cX11_init 85 = .ok (.putfield 58, 3) := by decide +kernel
theorem dX11_init_88 : decode cX11_init 88 = .ok (.aload_n 0, 1) := by decide +kernel
theorem dX11_init_89 : decode cX11_init 89 = .ok (.new 62, 3) := by decide +kernel
theorem dX11_init_92 : decode cX11_init 92 = .ok (.dup, 1) := by decide +kernel
theorem dX11_init_93 : decode cX11_init 93 = .ok (.invokespecial 64, 3) := by decide +kernel
theorem dX11_init_96 : decode cX11_init 96 = .ok (.putfield 65, 3) := by decide +kernel
theorem dX11_init_99 : decode cX11_init 99 = .ok (.aload_n 0, 1) := by decide +kernel
theorem dX11_init_100 : decode cX11_init 100 = .ok (.new 69, 3) := by decide +kernel
theorem dX11_init_103 : decode cX11_init 103 = .ok (.dup, 1) := by decide +kernel
theorem dX11_init_104 : decode cX11_init 104 = .ok (.invokespecial 71, 3) := by decide +kernel
theorem dX11_init_107 : decode cX11_init 107 = .ok (.putfield 72, 3) := by decide +kernel
theorem dX11_init_110 : decode cX11_init 110 = .ok (.aload_n 0, 1) := by decide +kernel
theorem dX11_init_111 : decode cX11_init 111 = .ok (.new 76, 3) := by decide +kernel
theorem dX11_init_114 : decode cX11_init 114 = .ok (.dup, 1) := by decide +kernel
theorem dX11_init_115 : decode cX11_init 115 = .ok (.invokespecial 78, 3) := by decide +kernel
theorem dX11_init_118 : decode cX11_init 118 = .ok (.putfield 79, 3) := by decide +kernel
theorem dX11_init_121 : decode cX11_init 121 = .ok (.return_, 1) := by decide +kernel
set_option maxRecDepth 20000 in
theorem ggX11_feed_X11_putBytes : GoodIn wsX11_feed wsX11_putBytes := goodIn_r _ [6, 7, 1, 8, 9, 10, 11, 12, 13, 14, 15, 16, 17, 18, 19, 20] (by decide +kernel) (by decide +kernel)
set_option maxRecDepth 20000 in
theorem gX11_feed_X11_putBytes : GoodIn wsX11_feed (wsV RX11 83 RX11 yX11_putBytes wsX11_putBytes) := goodIn_app (goodIn_of _ (by decide +kernel)) ggX11_feed_X11_putBytes
theorem dX11_feed_0 : decode cX11_feed 0 = .ok (.aload_n 0, 1) := by decide +kernel
theorem dX11_feed_1 : decode cX11_feed 1 = .ok (.getfield 13, 3) := by decide +kernel
theorem dX11_feed_4 : decode cX11_feed 4 = .ok (.bipush 20, 2) := by decide +kernel
theorem dX11_feed_6 : decode cX11_feed 6 = .ok (.iadd, 1) := by decide +kernel
theorem dX11_feed_7 : decode cX11_feed 7 = .ok (.sipush 700, 3) := by decide +kernel
theorem dX11_feed_10 : decode cX11_feed 10 = .ok (.if_icmp .le 5, 3) := by decide +kernel
theorem dX11_feed_13 : decode cX11_feed 13 = .ok (.iconst (-1), 1) := by decide +kernel
theorem dX11_feed_14 : decode cX11_feed 14 = .ok (.ireturn, 1) := by decide +kernel
theorem dX11_feed_15 : decode cX11_feed 15 = .ok (.aload_n 0, 1) := by decide +kernel
theorem dX11_feed_16 : decode cX11_feed 16 = .ok (.iload_n 1, 1) := by decide +kernel
theorem dX11_feed_17 : decode cX11_feed 17 = .ok (.invokevirtual 83, 3) := by decide +kernel
theorem dX11_feed_20 : decode cX11_feed 20 = .ok (.aload_n 0, 1) := by decide +kernel
theorem dX11_feed_21 : decode cX11_feed 21 = .ok (.iload_n 2, 1) := by decide +kernel
theorem dX11_feed_22 : decode cX11_feed 22 = .ok (.invokevirtual 83, 3) := by decide +kernel
theorem dX11_feed_25 : decode cX11_feed 25 = .ok (.aload_n 0, 1) := by decide +kernel
theorem dX11_feed_26 : decode cX11_feed 26 = .ok (.iload_n 3, 1) := by decide +kernel
theorem dX11_feed_27 : decode cX11_feed 27 = .ok (.invokevirtual 83, 3) := by decide +kernel
theorem dX11_feed_30 : decode cX11_feed 30 = .ok (.aload_n 0, 1) := by decide +kernel
theorem dX11_feed_31 : decode cX11_feed 31 = .ok (.iload 4, 2) := by decide +kernel
theorem dX11_feed_33 : decode cX11_feed 33 = .ok (.invokevirtual 83, 3) := by decide +kernel
theorem dX11_feed_36 : decode cX11_feed 36 = .ok (.aload_n 0, 1) := by decide +kernel
theorem dX11_feed_37 : decode cX11_feed 37 = .ok (.iload 5, 2) := by decide +kernel
theorem dX11_feed_39 : decode cX11_feed 39 = .ok (.invokevirtual 83, 3) := by decide +kernel
theorem dX11_feed_42 : decode cX11_feed 42 = .ok (.aload_n 0, 1) := by decide +kernel
theorem dX11_feed_43 : decode cX11_feed 43 = .ok (.getfield 13, 3) := by decide +kernel
theorem dX11_feed_46 : decode cX11_feed 46 = .ok (.ireturn, 1) := by decide +kernel
theorem dX11_putBytes_0 : decode cX11_putBytes 0 = .ok (.bipush 24, 2) := by decide +kernel
theorem dX11_putBytes_2 : decode cX11_putBytes 2 = .ok (.istore_n 2, 1) := by decide +kernel
theorem dX11_putBytes_3 : decode cX11_putBytes 3 = .ok (.iload_n 2, 1) := by decide +kernel
theorem dX11_putBytes_4 : decode cX11_putBytes 4 = .ok (.ifCond .lt 35, 3) := by decide +kernel
theorem dX11_putBytes_7 : decode cX11_putBytes 7 = .ok (.aload_n 0, 1) := by decide +kernel
theorem dX11_putBytes_8 : decode cX11_putBytes 8 = .ok (.getfield 9, 3) := by decide +kernel
theorem dX11_putBytes_11 : decode cX11_putBytes 11 = .ok (.aload_n 0, 1) := by decide +kernel
theorem dX11_putBytes_12 : decode cX11_putBytes 12 = .ok (.getfield 13, 3) := by decide +kernel
theorem dX11_putBytes_15 : decode cX11_putBytes 15 = .ok (.iload_n 1, 1) := by decide +kernel
theorem dX11_putBytes_16 : decode cX11_putBytes 16 = .ok (.iload_n 2, 1) := by decide +kernel
theorem dX11_putBytes_17 : decode cX11_putBytes 17 = .ok (.ishr, 1) := by decide +kernel
theorem dX11_putBytes_18 : decode cX11_putBytes 18 = .ok (.sipush 255, 3) := by decide +kernel
theorem dX11_putBytes_21 : decode cX11_putBytes 21 = .ok (.iand, 1) := by decide +kernel
theorem dX11_putBytes_22 : decode cX11_putBytes 22 = .ok (.iastore, 1) := by decide +kernel
theorem dX11_putBytes_23 : decode cX11_putBytes 23 = .ok (.aload_n 0, 1) := by decide +kernel
theorem dX11_putBytes_24 : decode cX11_putBytes 24 = .ok (.dup, 1) := by decide +kernel
theorem dX11_putBytes_25 : decode cX11_putBytes 25 = .ok (.getfield 13, 3) := by decide +kernel
theorem dX11_putBytes_28 : decode cX11_putBytes 28 = .ok (.iconst 1, 1) := by decide +kernel
theorem dX11_putBytes_29 : decode cX11_putBytes 29 = .ok (.iadd, 1) := by decide +kernel
theorem dX11_putBytes_30 : decode cX11_putBytes 30 = .ok (.putfield 13, 3) := by decide +kernel
theorem dX11_putBytes_33 : decode cX11_putBytes 33 = .ok (.iinc 2 (-8), 3) := by decide +kernel
theorem dX11_putBytes_36 : decode cX11_putBytes 36 = .ok (.goto (-33), 3) := by decide +kernel
theorem dX11_putBytes_39 : decode cX11_putBytes 39 = .ok (.return_, 1) := by decide +kernel
set_option maxRecDepth 20000 in
theorem ggX11_heap_X6_readText : GoodIn wsX11_heap wsX6_readText := goodIn_r _ [16, 17, 18, 19, 20, 21, 22, 23, 24, 25, 26, 27, 28, 29, 15, 30, 31, 32, 33, 34, 35, 36, 37, 38, 39, 40, 41, 42, 43, 44, 45, 46, 47, 48, 49, 50, 51, 52, 53, 54, 55, 56, 57, 58, 59, 60, 61, 62, 63, 64, 65, 66, 67, 68, 69, 70, 71, 72, 73, 74, 75, 76, 77, 78, 79, 80, 81, 82, 83, 84, 85, 86, 87, 88, 89, 90, 91, 92, 93, 94, 95, 96, 97, 98, 99, 100, 101, 102, 103, 104, 105, 106, 107, 108, 109, 110, 111, 112, 113, 114, 115, 116, 117, 118, 119, 120, 121, 122, 123, 124, 125, 126, 127, 128, 129, 130, 131, 132, 133, 134, 135, 136, 137, 138, 139, 140, 141, 142, 143, 144, 145, 146, 147, 148, 149, 150, 151, 152, 153, 154, 155, 156, 157, 158, 159, 160, 161, 162, 163, 164, 165, 166, 167, 168, 169, 170, 171, 172, 219, 220, 221, 222, 223, 224, 225, 226, 227, 228, 229, 235, 236, 237, 238, 239, 240, 241, 242, 243, 244, 245, 246] (by decide +kernel) (by decide +kernel)
set_option maxRecDepth 20000 in
theorem gX11_heap_X6_readText : GoodIn wsX11_heap (wsV RX11 94 RX6 yX6_readText wsX6_readText) := goodIn_app (goodIn_of _ (by decide +kernel)) ggX11_heap_X6_readText
set_option maxRecDepth 20000 in
theorem ggX11_heap_X0_renew : GoodIn wsX11_heap wsX0_renew := goodIn_r _ [177, 178, 179, 180, 181, 182, 183, 184, 165, 185, 186, 187, 168, 169, 170, 171, 188, 189, 167, 172, 190, 191, 192, 193, 194, 195, 196, 197, 198, 199, 200, 201, 202, 203, 204, 205, 230, 231, 232, 233, 234, 247, 248, 249, 235, 236, 237, 238, 239, 240, 241, 242, 243, 244, 245, 246, 250, 251, 252, 253] (by decide +kernel) (by decide +kernel)
set_option maxRecDepth 20000 in
theorem gX11_heap_X0_renew : GoodIn wsX11_heap (wsV RX11 108 RX0 yX0_renew wsX0_renew) := goodIn_app (goodIn_of _ (by decide +kernel)) ggX11_heap_X0_renew
theorem dX11_heap_0 : decode cX11_heap 0 = .ok (.iload_n 1, 1) := by decide +kernel
theorem dX11_heap_1 : decode cX11_heap 1 = .ok (.ifCond .lt 11, 3) := by decide +kernel
theorem dX11_heap_4 : decode cX11_heap 4 = .ok (.iload_n 1, 1) := by decide +kernel
theorem dX11_heap_5 : decode cX11_heap 5 = .ok (.aload_n 0, 1) := by decide +kernel
theorem dX11_heap_6 : decode cX11_heap 6 = .ok (.getfield 13, 3) := by decide +kernel
theorem dX11_heap_9 : decode cX11_heap 9 = .ok (.if_icmp .le 13, 3) := by decide +kernel
theorem dX11_heap_12 : decode cX11_heap 12 = .ok (.new 87, 3) := by decide +kernel
theorem dX11_heap_15 : decode cX11_heap 15 = .ok (.dup, 1) := by decide +kernel
theorem dX11_heap_16 : decode cX11_heap 16 = .ok (.ldc 89, 2) := by decide +kernel
theorem dX11_heap_18 : decode cX11_heap 18 = .ok (.invokespecial 91, 3) := by decide +kernel
theorem dX11_heap_21 : decode cX11_heap 21 = .ok (.athrow, 1) := by decide +kernel
theorem dX11_heap_22 : decode cX11_heap 22 = .ok (.aload_n 0, 1) := by decide +kernel
theorem dX11_heap_23 : decode cX11_heap 23 = .ok (.iconst 0, 1) := by decide +kernel
theorem dX11_heap_24 : decode cX11_heap 24 = .ok (.putfield 13, 3) := by decide +kernel
theorem dX11_heap_27 : decode cX11_heap 27 = .ok (.aload_n 0, 1) := by decide +kernel
theorem dX11_heap_28 : decode cX11_heap 28 = .ok (.getfield 79, 3) := by decide +kernel
theorem dX11_heap_31 : decode cX11_heap 31 = .ok (.aload_n 0, 1) := by decide +kernel
theorem dX11_heap_32 : decode cX11_heap 32 = .ok (.getfield 9, 3) := by decide +kernel
theorem dX11_heap_35 : decode cX11_heap 35 = .ok (.iload_n 1, 1) := by decide +kernel
theorem dX11_heap_36 : decode cX11_heap 36 = .ok (.invokevirtual 94, 3) := by decide +kernel
theorem dX11_heap_39 : decode cX11_heap 39 = .ok (.istore_n 2, 1) := by decide +kernel
theorem dX11_heap_40 : decode cX11_heap 40 = .ok (.iload_n 2, 1) := by decide +kernel
theorem dX11_heap_41 : decode cX11_heap 41 = .ok (.ifCond .eq 29, 3) := by decide +kernel
theorem dX11_heap_44 : decode cX11_heap 44 = .ok (.aload_n 0, 1) := by decide +kernel
theorem dX11_heap_45 : decode cX11_heap 45 = .ok (.aload_n 0, 1) := by decide +kernel
theorem dX11_heap_46 : decode cX11_heap 46 = .ok (.getfield 79, 3) := by decide +kernel
theorem dX11_heap_49 : decode cX11_heap 49 = .ok (.getfield 98, 3) := by decide +kernel
theorem dX11_heap_52 : decode cX11_heap 52 = .ok (.putfield 17, 3) := by decide +kernel
theorem dX11_heap_55 : decode cX11_heap 55 = .ok (.aload_n 0, 1) := by decide +kernel
theorem dX11_heap_56 : decode cX11_heap 56 = .ok (.getfield 23, 3) := by decide +kernel
theorem dX11_heap_59 : decode cX11_heap 59 = .ok (.getfield 101, 3) := by decide +kernel
theorem dX11_heap_62 : decode cX11_heap 62 = .ok (.iconst 0, 1) := by decide +kernel
theorem dX11_heap_63 : decode cX11_heap 63 = .ok (.dup2, 1) := by decide +kernel
theorem dX11_heap_64 : decode cX11_heap 64 = .ok (.iaload, 1) := by decide +kernel
theorem dX11_heap_65 : decode cX11_heap 65 = .ok (.iconst 1, 1) := by decide +kernel
theorem dX11_heap_66 : decode cX11_heap 66 = .ok (.iadd, 1) := by decide +kernel
theorem dX11_heap_67 : decode cX11_heap 67 = .ok (.iastore, 1) := by decide +kernel
theorem dX11_heap_68 : decode cX11_heap 68 = .ok (.iload_n 2, 1) := by decide +kernel
theorem dX11_heap_69 : decode cX11_heap 69 = .ok (.ireturn, 1) := by decide +kernel
theorem dX11_heap_70 : decode cX11_heap 70 = .ok (.aload_n 0, 1) := by decide +kernel
theorem dX11_heap_71 : decode cX11_heap 71 = .ok (.iconst (-1), 1) := by decide +kernel
theorem dX11_heap_72 : decode cX11_heap 72 = .ok (.putfield 17, 3) := by decide +kernel
theorem dX11_heap_75 : decode cX11_heap 75 = .ok (.aload_n 0, 1) := by decide +kernel
theorem dX11_heap_76 : decode cX11_heap 76 = .ok (.iconst 0, 1) := by decide +kernel
theorem dX11_heap_77 : decode cX11_heap 77 = .ok (.putfield 30, 3) := by decide +kernel
theorem dX11_heap_80 : decode cX11_heap 80 = .ok (.aload_n 0, 1) := by decide +kernel
theorem dX11_heap_81 : decode cX11_heap 81 = .ok (.getfield 23, 3) := by decide +kernel
theorem dX11_heap_84 : decode cX11_heap 84 = .ok (.aload_n 0, 1) := by decide +kernel
theorem dX11_heap_85 : decode cX11_heap 85 = .ok (.getfield 79, 3) := by decide +kernel
theorem dX11_heap_88 : decode cX11_heap 88 = .ok (.getfield 104, 3) := by decide +kernel
theorem dX11_heap_91 : decode cX11_heap 91 = .ok (.invokevirtual 108, 3) := by decide +kernel
theorem dX11_heap_94 : decode cX11_heap 94 = .ok (.iconst 0, 1) := by decide +kernel
theorem dX11_heap_95 : decode cX11_heap 95 = .ok (.ireturn, 1) := by decide +kernel
theorem dX11_fault_0 : decode cX11_fault 0 = .ok (.aload_n 0, 1) := by decide +kernel
theorem dX11_fault_1 : decode cX11_fault 1 = .ok (.getfield 17, 3) := by decide +kernel
theorem dX11_fault_4 : decode cX11_fault 4 = .ok (.ireturn, 1) := by decide +kernel
set_option maxRecDepth 20000 in
theorem ggX11_count_X4_microsLeft : GoodIn wsX11_count wsX4_microsLeft := goodIn_r _ [20, 21, 22, 47, 48, 49, 50, 51, 52, 53, 54, 55, 56, 57, 58] (by decide +kernel) (by decide +kernel)
set_option maxRecDepth 20000 in
theorem gX11_count_X4_microsLeft : GoodIn wsX11_count (wsV RX11 127 RX4 yX4_microsLeft wsX4_microsLeft) := goodIn_app (goodIn_of _ (by decide +kernel)) ggX11_count_X4_microsLeft
set_option maxRecDepth 20000 in
theorem ggX11_count_X1_pendingInAll : GoodIn wsX11_count wsX1_pendingInAll := goodIn_r _ [27, 28, 62, 63, 64, 65] (by decide +kernel) (by decide +kernel)
set_option maxRecDepth 20000 in
theorem gX11_count_X1_pendingInAll : GoodIn wsX11_count (wsV RX11 135 RX1 yX1_pendingInAll wsX1_pendingInAll) := goodIn_app (goodIn_of _ (by decide +kernel)) ggX11_count_X1_pendingInAll
theorem dX11_count_0 : decode cX11_count 0 = .ok (.aload_n 0, 1) := by decide +kernel
theorem dX11_count_1 : decode cX11_count 1 = .ok (.getfield 23, 3) := by decide +kernel
theorem dX11_count_4 : decode cX11_count 4 = .ok (.getfield 112, 3) := by decide +kernel
theorem dX11_count_7 : decode cX11_count 7 = .ok (.astore_n 2, 1) := by decide +kernel
theorem dX11_count_8 : decode cX11_count 8 = .ok (.iload_n 1, 1) := by decide +kernel
theorem dX11_count_9 : decode cX11_count 9 = .ok (.tableswitch 140 0 16 #[83, 88, 93, 98, 103, 140, 140, 140, 140, 140, 140, 140, 140, 108, 116, 127, 135], 83) := by decide +kernel
theorem dX11_count_92 : decode cX11_count 92 = .ok (.aload_n 2, 1) := by decide +kernel
theorem dX11_count_93 : decode cX11_count 93 = .ok (.getfield 113, 3) := by decide +kernel
theorem dX11_count_96 : decode cX11_count 96 = .ok (.ireturn, 1) := by decide +kernel
theorem dX11_count_97 : decode cX11_count 97 = .ok (.aload_n 2, 1) := by decide +kernel
theorem dX11_count_98 : decode cX11_count 98 = .ok (.getfield 118, 3) := by decide +kernel
theorem dX11_count_101 : decode cX11_count 101 = .ok (.ireturn, 1) := by decide +kernel
theorem dX11_count_102 : decode cX11_count 102 = .ok (.aload_n 2, 1) := by decide +kernel
theorem dX11_count_103 : decode cX11_count 103 = .ok (.getfield 121, 3) := by decide +kernel
theorem dX11_count_106 : decode cX11_count 106 = .ok (.ireturn, 1) := by decide +kernel
theorem dX11_count_107 : decode cX11_count 107 = .ok (.aload_n 2, 1) := by decide +kernel
theorem dX11_count_108 : decode cX11_count 108 = .ok (.getfield 124, 3) := by decide +kernel
theorem dX11_count_111 : decode cX11_count 111 = .ok (.ireturn, 1) := by decide +kernel
theorem dX11_count_112 : decode cX11_count 112 = .ok (.aload_n 2, 1) := by decide +kernel
theorem dX11_count_113 : decode cX11_count 113 = .ok (.invokevirtual 127, 3) := by decide +kernel
theorem dX11_count_116 : decode cX11_count 116 = .ok (.ireturn, 1) := by decide +kernel
theorem dX11_count_117 : decode cX11_count 117 = .ok (.aload_n 2, 1) := by decide +kernel
theorem dX11_count_118 : decode cX11_count 118 = .ok (.getfield 131, 3) := by decide +kernel
theorem dX11_count_121 : decode cX11_count 121 = .ok (.invokevirtual 135, 3) := by decide +kernel
theorem dX11_count_124 : decode cX11_count 124 = .ok (.ireturn, 1) := by decide +kernel
theorem dX11_count_125 : decode cX11_count 125 = .ok (.aload_n 0, 1) := by decide +kernel
theorem dX11_count_126 : decode cX11_count 126 = .ok (.getfield 23, 3) := by decide +kernel
theorem dX11_count_129 : decode cX11_count 129 = .ok (.getfield 140, 3) := by decide +kernel
theorem dX11_count_132 : decode cX11_count 132 = .ok (.getfield 144, 3) := by decide +kernel
theorem dX11_count_135 : decode cX11_count 135 = .ok (.ireturn, 1) := by decide +kernel
theorem dX11_count_136 : decode cX11_count 136 = .ok (.aload_n 0, 1) := by decide +kernel
theorem dX11_count_137 : decode cX11_count 137 = .ok (.getfield 23, 3) := by decide +kernel
theorem dX11_count_140 : decode cX11_count 140 = .ok (.getfield 149, 3) := by decide +kernel
theorem dX11_count_143 : decode cX11_count 143 = .ok (.ireturn, 1) := by decide +kernel
theorem dX11_count_144 : decode cX11_count 144 = .ok (.aload_n 0, 1) := by decide +kernel
theorem dX11_count_145 : decode cX11_count 145 = .ok (.getfield 13, 3) := by decide +kernel
theorem dX11_count_148 : decode cX11_count 148 = .ok (.ireturn, 1) := by decide +kernel
theorem dX11_count_149 : decode cX11_count 149 = .ok (.iload_n 1, 1) := by decide +kernel
theorem dX11_count_150 : decode cX11_count 150 = .ok (.iconst 5, 1) := by decide +kernel
theorem dX11_count_151 : decode cX11_count 151 = .ok (.if_icmp .lt 18, 3) := by decide +kernel
theorem dX11_count_154 : decode cX11_count 154 = .ok (.iload_n 1, 1) := by decide +kernel
theorem dX11_count_155 : decode cX11_count 155 = .ok (.bipush 13, 2) := by decide +kernel
theorem dX11_count_157 : decode cX11_count 157 = .ok (.if_icmp .ge 12, 3) := by decide +kernel
theorem dX11_count_160 : decode cX11_count 160 = .ok (.aload_n 2, 1) := by decide +kernel
theorem dX11_count_161 : decode cX11_count 161 = .ok (.getfield 152, 3) := by decide +kernel
theorem dX11_count_164 : decode cX11_count 164 = .ok (.iload_n 1, 1) := by decide +kernel
theorem dX11_count_165 : decode cX11_count 165 = .ok (.iconst 5, 1) := by decide +kernel
theorem dX11_count_166 : decode cX11_count 166 = .ok (.isub, 1) := by decide +kernel
theorem dX11_count_167 : decode cX11_count 167 = .ok (.iaload, 1) := by decide +kernel
theorem dX11_count_168 : decode cX11_count 168 = .ok (.ireturn, 1) := by decide +kernel
theorem dX11_count_169 : decode cX11_count 169 = .ok (.iload_n 1, 1) := by decide +kernel
theorem dX11_count_170 : decode cX11_count 170 = .ok (.bipush 17, 2) := by decide +kernel
theorem dX11_count_172 : decode cX11_count 172 = .ok (.if_icmp .lt 22, 3) := by decide +kernel
theorem dX11_count_175 : decode cX11_count 175 = .ok (.iload_n 1, 1) := by decide +kernel
theorem dX11_count_176 : decode cX11_count 176 = .ok (.bipush 20, 2) := by decide +kernel
theorem dX11_count_178 : decode cX11_count 178 = .ok (.if_icmp .ge 16, 3) := by decide +kernel
theorem dX11_count_181 : decode cX11_count 181 = .ok (.aload_n 0, 1) := by decide +kernel
theorem dX11_count_182 : decode cX11_count 182 = .ok (.getfield 23, 3) := by decide +kernel
theorem dX11_count_185 : decode cX11_count 185 = .ok (.getfield 101, 3) := by decide +kernel
theorem dX11_count_188 : decode cX11_count 188 = .ok (.iload_n 1, 1) := by decide +kernel
theorem dX11_count_189 : decode cX11_count 189 = .ok (.bipush 17, 2) := by decide +kernel
theorem dX11_count_191 : decode cX11_count 191 = .ok (.isub, 1) := by decide +kernel
theorem dX11_count_192 : decode cX11_count 192 = .ok (.iaload, 1) := by decide +kernel
theorem dX11_count_193 : decode cX11_count 193 = .ok (.ireturn, 1) := by decide +kernel
theorem dX11_count_194 : decode cX11_count 194 = .ok (.new 155, 3) := by decide +kernel
theorem dX11_count_197 : decode cX11_count 197 = .ok (.dup, 1) := by decide +kernel
theorem dX11_count_198 : decode cX11_count 198 = .ok (.ldc 157, 2) := by decide +kernel
theorem dX11_count_200 : decode cX11_count 200 = .ok (.invokespecial 159, 3) := by decide +kernel
theorem dX11_count_203 : decode cX11_count 203 = .ok (.athrow, 1) := by decide +kernel
set_option maxRecDepth 20000 in
theorem ggX11_word_X11_isWord : GoodIn wsX11_word wsX11_isWord := goodIn_r _ [10] (by decide +kernel) (by decide +kernel)
set_option maxRecDepth 20000 in
theorem gX11_word_X11_isWord : GoodIn wsX11_word (va_wsS RX11 160 yX11_isWord wsX11_isWord) := goodIn_app (goodIn_of _ (by decide +kernel)) ggX11_word_X11_isWord
set_option maxRecDepth 20000 in
theorem ggX11_word_X1_wordNow : GoodIn wsX11_word wsX1_wordNow := goodIn_r _ [15, 16, 17, 18, 49, 50, 51, 52] (by decide +kernel) (by decide +kernel)
set_option maxRecDepth 20000 in
theorem gX11_word_X1_wordNow : GoodIn wsX11_word (wsV RX11 169 RX1 yX1_wordNow wsX1_wordNow) := goodIn_app (goodIn_of _ (by decide +kernel)) ggX11_word_X1_wordNow
theorem dX11_word_0 : decode cX11_word 0 = .ok (.iload_n 1, 1) := by decide +kernel
theorem dX11_word_1 : decode cX11_word 1 = .ok (.invokestatic 160, 3) := by decide +kernel
theorem dX11_word_4 : decode cX11_word 4 = .ok (.ifCond .ne 13, 3) := by decide +kernel
theorem dX11_word_7 : decode cX11_word 7 = .ok (.new 155, 3) := by decide +kernel
theorem dX11_word_10 : decode cX11_word 10 = .ok (.dup, 1) := by decide +kernel
theorem dX11_word_11 : decode cX11_word 11 = .ok (.ldc 164, 2) := by decide +kernel
theorem dX11_word_13 : decode cX11_word 13 = .ok (.invokespecial 159, 3) := by decide +kernel
theorem dX11_word_16 : decode cX11_word 16 = .ok (.athrow, 1) := by decide +kernel
theorem dX11_word_17 : decode cX11_word 17 = .ok (.aload_n 0, 1) := by decide +kernel
theorem dX11_word_18 : decode cX11_word 18 = .ok (.getfield 23, 3) := by decide +kernel
theorem dX11_word_21 : decode cX11_word 21 = .ok (.getfield 112, 3) := by decide +kernel
theorem dX11_word_24 : decode cX11_word 24 = .ok (.getfield 131, 3) := by decide +kernel
theorem dX11_word_27 : decode cX11_word 27 = .ok (.astore_n 3, 1) := by decide +kernel
theorem dX11_word_28 : decode cX11_word 28 = .ok (.iload_n 2, 1) := by decide +kernel
theorem dX11_word_29 : decode cX11_word 29 = .ok (.ifCond .eq 12, 3) := by decide +kernel
theorem dX11_word_32 : decode cX11_word 32 = .ok (.aload_n 3, 1) := by decide +kernel
theorem dX11_word_33 : decode cX11_word 33 = .ok (.getfield 166, 3) := by decide +kernel
theorem dX11_word_36 : decode cX11_word 36 = .ok (.iload_n 1, 1) := by decide +kernel
theorem dX11_word_37 : decode cX11_word 37 = .ok (.iaload, 1) := by decide +kernel
theorem dX11_word_38 : decode cX11_word 38 = .ok (.goto 8, 3) := by decide +kernel
theorem dX11_word_41 : decode cX11_word 41 = .ok (.aload_n 3, 1) := by decide +kernel
theorem dX11_word_42 : decode cX11_word 42 = .ok (.iload_n 1, 1) := by decide +kernel
theorem dX11_word_43 : decode cX11_word 43 = .ok (.invokevirtual 169, 3) := by decide +kernel
theorem dX11_word_46 : decode cX11_word 46 = .ok (.ireturn, 1) := by decide +kernel
set_option maxRecDepth 20000 in
theorem ggX11_line_X11_isLine : GoodIn wsX11_line wsX11_isLine := goodIn_r _ [12] (by decide +kernel) (by decide +kernel)
set_option maxRecDepth 20000 in
theorem gX11_line_X11_isLine : GoodIn wsX11_line (va_wsS RX11 173 yX11_isLine wsX11_isLine) := goodIn_app (goodIn_of _ (by decide +kernel)) ggX11_line_X11_isLine
theorem dX11_line_0 : decode cX11_line 0 = .ok (.iload_n 1, 1) := by decide +kernel
theorem dX11_line_1 : decode cX11_line 1 = .ok (.invokestatic 173, 3) := by decide +kernel
theorem dX11_line_4 : decode cX11_line 4 = .ok (.ifCond .ne 13, 3) := by decide +kernel
theorem dX11_line_7 : decode cX11_line 7 = .ok (.new 155, 3) := by decide +kernel
theorem dX11_line_10 : decode cX11_line 10 = .ok (.dup, 1) := by decide +kernel
theorem dX11_line_11 : decode cX11_line 11 = .ok (.ldc 176, 2) := by decide +kernel
theorem dX11_line_13 : decode cX11_line 13 = .ok (.invokespecial 159, 3) := by decide +kernel
theorem dX11_line_16 : decode cX11_line 16 = .ok (.athrow, 1) := by decide +kernel
theorem dX11_line_17 : decode cX11_line 17 = .ok (.aload_n 0, 1) := by decide +kernel
theorem dX11_line_18 : decode cX11_line 18 = .ok (.getfield 23, 3) := by decide +kernel
theorem dX11_line_21 : decode cX11_line 21 = .ok (.getfield 112, 3) := by decide +kernel
theorem dX11_line_24 : decode cX11_line 24 = .ok (.getfield 131, 3) := by decide +kernel
theorem dX11_line_27 : decode cX11_line 27 = .ok (.astore_n 3, 1) := by decide +kernel
theorem dX11_line_28 : decode cX11_line 28 = .ok (.iload_n 2, 1) := by decide +kernel
theorem dX11_line_29 : decode cX11_line 29 = .ok (.iconst (-1), 1) := by decide +kernel
theorem dX11_line_30 : decode cX11_line 30 = .ok (.if_icmp .ne 10, 3) := by decide +kernel
theorem dX11_line_33 : decode cX11_line 33 = .ok (.aload_n 3, 1) := by decide +kernel
theorem dX11_line_34 : decode cX11_line 34 = .ok (.getfield 178, 3) := by decide +kernel
theorem dX11_line_37 : decode cX11_line 37 = .ok (.iload_n 1, 1) := by decide +kernel
theorem dX11_line_38 : decode cX11_line 38 = .ok (.iaload, 1) := by decide +kernel
theorem dX11_line_39 : decode cX11_line 39 = .ok (.ireturn, 1) := by decide +kernel
theorem dX11_line_40 : decode cX11_line 40 = .ok (.iload_n 2, 1) := by decide +kernel
theorem dX11_line_41 : decode cX11_line 41 = .ok (.bipush (-2), 2) := by decide +kernel
theorem dX11_line_43 : decode cX11_line 43 = .ok (.if_icmp .ne 10, 3) := by decide +kernel
theorem dX11_line_46 : decode cX11_line 46 = .ok (.aload_n 3, 1) := by decide +kernel
theorem dX11_line_47 : decode cX11_line 47 = .ok (.getfield 181, 3) := by decide +kernel
theorem dX11_line_50 : decode cX11_line 50 = .ok (.iload_n 1, 1) := by decide +kernel
theorem dX11_line_51 : decode cX11_line 51 = .ok (.iaload, 1) := by decide +kernel
theorem dX11_line_52 : decode cX11_line 52 = .ok (.ireturn, 1) := by decide +kernel
theorem dX11_line_53 : decode cX11_line 53 = .ok (.iload_n 2, 1) := by decide +kernel
theorem dX11_line_54 : decode cX11_line 54 = .ok (.ifCond .lt 13, 3) := by decide +kernel
theorem dX11_line_57 : decode cX11_line 57 = .ok (.iload_n 2, 1) := by decide +kernel
theorem dX11_line_58 : decode cX11_line 58 = .ok (.aload_n 3, 1) := by decide +kernel
theorem dX11_line_59 : decode cX11_line 59 = .ok (.getfield 178, 3) := by decide +kernel
theorem dX11_line_62 : decode cX11_line 62 = .ok (.iload_n 1, 1) := by decide +kernel
theorem dX11_line_63 : decode cX11_line 63 = .ok (.iaload, 1) := by decide +kernel
theorem dX11_line_64 : decode cX11_line 64 = .ok (.if_icmp .lt 13, 3) := by decide +kernel
theorem dX11_line_67 : decode cX11_line 67 = .ok (.new 155, 3) := by decide +kernel
theorem dX11_line_70 : decode cX11_line 70 = .ok (.dup, 1) := by decide +kernel
theorem dX11_line_71 : decode cX11_line 71 = .ok (.ldc 184, 2) := by decide +kernel
theorem dX11_line_73 : decode cX11_line 73 = .ok (.invokespecial 159, 3) := by decide +kernel
theorem dX11_line_76 : decode cX11_line 76 = .ok (.athrow, 1) := by decide +kernel
theorem dX11_line_77 : decode cX11_line 77 = .ok (.aload_n 3, 1) := by decide +kernel
theorem dX11_line_78 : decode cX11_line 78 = .ok (.getfield 186, 3) := by decide +kernel
theorem dX11_line_81 : decode cX11_line 81 = .ok (.iload_n 1, 1) := by decide +kernel
theorem dX11_line_82 : decode cX11_line 82 = .ok (.bipush 6, 2) := by decide +kernel
theorem dX11_line_84 : decode cX11_line 84 = .ok (.imul, 1) := by decide +kernel
theorem dX11_line_85 : decode cX11_line 85 = .ok (.iload_n 2, 1) := by decide +kernel
theorem dX11_line_86 : decode cX11_line 86 = .ok (.iadd, 1) := by decide +kernel
theorem dX11_line_87 : decode cX11_line 87 = .ok (.iaload, 1) := by decide +kernel
theorem dX11_line_88 : decode cX11_line 88 = .ok (.ireturn, 1) := by decide +kernel
set_option maxRecDepth 20000 in
theorem ggX11_micro_X4_microsLeft : GoodIn wsX11_micro wsX4_microsLeft := goodIn_r _ [11, 12, 13, 32, 33, 34, 35, 36, 37, 38, 39, 40, 41, 42, 43] (by decide +kernel) (by decide +kernel)
set_option maxRecDepth 20000 in
theorem gX11_micro_X4_microsLeft : GoodIn wsX11_micro (wsV RX11 127 RX4 yX4_microsLeft wsX4_microsLeft) := goodIn_app (goodIn_of _ (by decide +kernel)) ggX11_micro_X4_microsLeft
theorem dX11_micro_0 : decode cX11_micro 0 = .ok (.aload_n 0, 1) := by decide +kernel
theorem dX11_micro_1 : decode cX11_micro 1 = .ok (.getfield 23, 3) := by decide +kernel
theorem dX11_micro_4 : decode cX11_micro 4 = .ok (.getfield 112, 3) := by decide +kernel
theorem dX11_micro_7 : decode cX11_micro 7 = .ok (.astore_n 3, 1) := by decide +kernel
theorem dX11_micro_8 : decode cX11_micro 8 = .ok (.iload_n 1, 1) := by decide +kernel
theorem dX11_micro_9 : decode cX11_micro 9 = .ok (.ifCond .lt 20, 3) := by decide +kernel
theorem dX11_micro_12 : decode cX11_micro 12 = .ok (.iload_n 1, 1) := by decide +kernel
theorem dX11_micro_13 : decode cX11_micro 13 = .ok (.aload_n 3, 1) := by decide +kernel
theorem dX11_micro_14 : decode cX11_micro 14 = .ok (.invokevirtual 127, 3) := by decide +kernel
theorem dX11_micro_17 : decode cX11_micro 17 = .ok (.if_icmp .ge 12, 3) := by decide +kernel
theorem dX11_micro_20 : decode cX11_micro 20 = .ok (.iload_n 2, 1) := by decide +kernel
theorem dX11_micro_21 : decode cX11_micro 21 = .ok (.ifCond .lt 8, 3) := by decide +kernel
theorem dX11_micro_24 : decode cX11_micro 24 = .ok (.iload_n 2, 1) := by decide +kernel
theorem dX11_micro_25 : decode cX11_micro 25 = .ok (.iconst 2, 1) := by decide +kernel
theorem dX11_micro_26 : decode cX11_micro 26 = .ok (.if_icmp .le 13, 3) := by decide +kernel
theorem dX11_micro_29 : decode cX11_micro 29 = .ok (.new 155, 3) := by decide +kernel
theorem dX11_micro_32 : decode cX11_micro 32 = .ok (.dup, 1) := by decide +kernel
theorem dX11_micro_33 : decode cX11_micro 33 = .ok (.ldc 189, 2) := by decide +kernel
theorem dX11_micro_35 : decode cX11_micro 35 = .ok (.invokespecial 159, 3) := by decide +kernel
theorem dX11_micro_38 : decode cX11_micro 38 = .ok (.athrow, 1) := by decide +kernel
theorem dX11_micro_39 : decode cX11_micro 39 = .ok (.aload_n 3, 1) := by decide +kernel
theorem dX11_micro_40 : decode cX11_micro 40 = .ok (.getfield 191, 3) := by decide +kernel
theorem dX11_micro_43 : decode cX11_micro 43 = .ok (.aload_n 3, 1) := by decide +kernel
theorem dX11_micro_44 : decode cX11_micro 44 = .ok (.getfield 194, 3) := by decide +kernel
theorem dX11_micro_47 : decode cX11_micro 47 = .ok (.iload_n 1, 1) := by decide +kernel
theorem dX11_micro_48 : decode cX11_micro 48 = .ok (.iadd, 1) := by decide +kernel
theorem dX11_micro_49 : decode cX11_micro 49 = .ok (.iaload, 1) := by decide +kernel
theorem dX11_micro_50 : decode cX11_micro 50 = .ok (.istore 4, 2) := by decide +kernel
theorem dX11_micro_52 : decode cX11_micro 52 = .ok (.iload 4, 2) := by decide +kernel
theorem dX11_micro_54 : decode cX11_micro 54 = .ok (.sipush 10000, 3) := by decide +kernel
theorem dX11_micro_57 : decode cX11_micro 57 = .ok (.idiv, 1) := by decide +kernel
theorem dX11_micro_58 : decode cX11_micro 58 = .ok (.istore 5, 2) := by decide +kernel
theorem dX11_micro_60 : decode cX11_micro 60 = .ok (.iload_n 2, 1) := by decide +kernel
theorem dX11_micro_61 : decode cX11_micro 61 = .ok (.ifCond .ne 6, 3) := by decide +kernel
theorem dX11_micro_64 : decode cX11_micro 64 = .ok (.iload 5, 2) := by decide +kernel
theorem dX11_micro_66 : decode cX11_micro 66 = .ok (.ireturn, 1) := by decide +kernel
theorem dX11_micro_67 : decode cX11_micro 67 = .ok (.iload 5, 2) := by decide +kernel
theorem dX11_micro_69 : decode cX11_micro 69 = .ok (.iconst 2, 1) := by decide +kernel
theorem dX11_micro_70 : decode cX11_micro 70 = .ok (.if_icmp .eq 14, 3) := by decide +kernel
theorem dX11_micro_73 : decode cX11_micro 73 = .ok (.iload 5, 2) := by decide +kernel
theorem dX11_micro_75 : decode cX11_micro 75 = .ok (.iconst 1, 1) := by decide +kernel
theorem dX11_micro_76 : decode cX11_micro 76 = .ok (.if_icmp .ne 10, 3) := by decide +kernel
theorem dX11_micro_79 : decode cX11_micro 79 = .ok (.iload_n 2, 1) := by decide +kernel
theorem dX11_micro_80 : decode cX11_micro 80 = .ok (.iconst 2, 1) := by decide +kernel
theorem dX11_micro_81 : decode cX11_micro 81 = .ok (.if_icmp .ne 5, 3) := by decide +kernel
theorem dX11_micro_84 : decode cX11_micro 84 = .ok (.iconst (-1), 1) := by decide +kernel
theorem dX11_micro_85 : decode cX11_micro 85 = .ok (.ireturn, 1) := by decide +kernel
theorem dX11_micro_86 : decode cX11_micro 86 = .ok (.iload 4, 2) := by decide +kernel
theorem dX11_micro_88 : decode cX11_micro 88 = .ok (.sipush 10000, 3) := by decide +kernel
theorem dX11_micro_91 : decode cX11_micro 91 = .ok (.irem, 1) := by decide +kernel
theorem dX11_micro_92 : decode cX11_micro 92 = .ok (.bipush 100, 2) := by decide +kernel
theorem dX11_micro_94 : decode cX11_micro 94 = .ok (.idiv, 1) := by decide +kernel
theorem dX11_micro_95 : decode cX11_micro 95 = .ok (.istore 6, 2) := by decide +kernel
theorem dX11_micro_97 : decode cX11_micro 97 = .ok (.iload_n 2, 1) := by decide +kernel
theorem dX11_micro_98 : decode cX11_micro 98 = .ok (.iconst 1, 1) := by decide +kernel
theorem dX11_micro_99 : decode cX11_micro 99 = .ok (.if_icmp .ne 8, 3) := by decide +kernel
theorem dX11_micro_102 : decode cX11_micro 102 = .ok (.iload 6, 2) := by decide +kernel
theorem dX11_micro_104 : decode cX11_micro 104 = .ok (.goto 8, 3) := by decide +kernel
theorem dX11_micro_107 : decode cX11_micro 107 = .ok (.iload 4, 2) := by decide +kernel
theorem dX11_micro_109 : decode cX11_micro 109 = .ok (.bipush 100, 2) := by decide +kernel
theorem dX11_micro_111 : decode cX11_micro 111 = .ok (.irem, 1) := by decide +kernel
theorem dX11_micro_112 : decode cX11_micro 112 = .ok (.ireturn, 1) := by decide +kernel
set_option maxRecDepth 20000 in
theorem ggX11_orders_X1_orderTotal : GoodIn wsX11_orders wsX1_orderTotal := goodIn_r _ [8, 9, 40, 41, 42, 43] (by decide +kernel) (by decide +kernel)
set_option maxRecDepth 20000 in
theorem gX11_orders_X1_orderTotal : GoodIn wsX11_orders (wsV RX11 197 RX1 yX1_orderTotal wsX1_orderTotal) := goodIn_app (goodIn_of _ (by decide +kernel)) ggX11_orders_X1_orderTotal
theorem dX11_orders_0 : decode cX11_orders 0 = .ok (.aload_n 0, 1) := by decide +kernel
theorem dX11_orders_1 : decode cX11_orders 1 = .ok (.getfield 23, 3) := by decide +kernel
theorem dX11_orders_4 : decode cX11_orders 4 = .ok (.getfield 112, 3) := by decide +kernel
theorem dX11_orders_7 : decode cX11_orders 7 = .ok (.getfield 131, 3) := by decide +kernel
theorem dX11_orders_10 : decode cX11_orders 10 = .ok (.invokevirtual 197, 3) := by decide +kernel
theorem dX11_orders_13 : decode cX11_orders 13 = .ok (.lreturn, 1) := by decide +kernel
set_option maxRecDepth 20000 in
theorem ggX11_shape_X1_fillWords : GoodIn wsX11_shape wsX1_fillWords := goodIn_r _ [17, 18, 19, 20, 21, 22, 23, 24, 118, 119, 120, 121] (by decide +kernel) (by decide +kernel)
set_option maxRecDepth 20000 in
theorem gX11_shape_X1_fillWords : GoodIn wsX11_shape (wsV RX11 206 RX1 yX1_fillWords wsX1_fillWords) := goodIn_app (goodIn_of _ (by decide +kernel)) ggX11_shape_X1_fillWords
set_option maxRecDepth 20000 in
theorem ggX11_shape_X7_survey : GoodIn wsX11_shape wsX7_survey := goodIn_r _ [29, 30, 31, 32, 33, 34, 35, 36, 37, 38, 39, 40, 28, 41, 42, 43, 122, 123, 124, 125, 126] (by decide +kernel) (by decide +kernel)
set_option maxRecDepth 20000 in
theorem gX11_shape_X7_survey : GoodIn wsX11_shape (wsV RX11 210 RX7 yX7_survey wsX7_survey) := goodIn_app (goodIn_of _ (by decide +kernel)) ggX11_shape_X7_survey
set_option maxRecDepth 20000 in
theorem ggX11_shape_X9_start : GoodIn wsX11_shape wsX9_start := goodIn_r _ [48, 49, 50, 51, 52, 20, 21, 22, 53, 54, 55, 56, 115, 116, 117, 118, 119, 120, 121] (by decide +kernel) (by decide +kernel)
set_option maxRecDepth 20000 in
theorem gX11_shape_X9_start : GoodIn wsX11_shape (wsV RX11 213 RX9 yX9_start wsX9_start) := goodIn_app (goodIn_of _ (by decide +kernel)) ggX11_shape_X9_start
set_option maxRecDepth 20000 in
theorem ggX11_shape_X9_recoverPicture : GoodIn wsX11_shape wsX9_recoverPicture := goodIn_r _ [60, 51, 61, 52, 20, 21, 22, 62, 36, 63, 64, 65, 66, 67, 68, 69, 70, 71, 72, 73, 115, 116, 117] (by decide +kernel) (by decide +kernel)
set_option maxRecDepth 20000 in
theorem gX11_shape_X9_recoverPicture : GoodIn wsX11_shape (wsV RX11 216 RX9 yX9_recoverPicture wsX9_recoverPicture) := goodIn_app (goodIn_of _ (by decide +kernel)) ggX11_shape_X9_recoverPicture
set_option maxRecDepth 20000 in
theorem ggX11_shape_X7_answer : GoodIn wsX11_shape wsX7_answer := goodIn_r _ [77, 31, 34, 30, 32, 33, 122, 123, 124, 125, 126] (by decide +kernel) (by decide +kernel)
set_option maxRecDepth 20000 in
theorem gX11_shape_X7_answer : GoodIn wsX11_shape (wsV RX11 225 RX7 yX7_answer wsX7_answer) := goodIn_app (goodIn_of _ (by decide +kernel)) ggX11_shape_X7_answer
theorem dX11_shape_0 : decode cX11_shape 0 = .ok (.iload_n 1, 1) := by decide +kernel
theorem dX11_shape_1 : decode cX11_shape 1 = .ok (.ifCond .lt 17, 3) := by decide +kernel
theorem dX11_shape_4 : decode cX11_shape 4 = .ok (.iload_n 1, 1) := by decide +kernel
theorem dX11_shape_5 : decode cX11_shape 5 = .ok (.iconst 2, 1) := by decide +kernel
theorem dX11_shape_6 : decode cX11_shape 6 = .ok (.if_icmp .gt 12, 3) := by decide +kernel
theorem dX11_shape_9 : decode cX11_shape 9 = .ok (.iload_n 2, 1) := by decide +kernel
theorem dX11_shape_10 : decode cX11_shape 10 = .ok (.ifCond .lt 8, 3) := by decide +kernel
theorem dX11_shape_13 : decode cX11_shape 13 = .ok (.iload_n 2, 1) := by decide +kernel
theorem dX11_shape_14 : decode cX11_shape 14 = .ok (.iconst 4, 1) := by decide +kernel
theorem dX11_shape_15 : decode cX11_shape 15 = .ok (.if_icmp .le 13, 3) := by decide +kernel
theorem dX11_shape_18 : decode cX11_shape 18 = .ok (.new 155, 3) := by decide +kernel
theorem dX11_shape_21 : decode cX11_shape 21 = .ok (.dup, 1) := by decide +kernel
theorem dX11_shape_22 : decode cX11_shape 22 = .ok (.ldc 201, 2) := by decide +kernel
theorem dX11_shape_24 : decode cX11_shape 24 = .ok (.invokespecial 159, 3) := by decide +kernel
theorem dX11_shape_27 : decode cX11_shape 27 = .ok (.athrow, 1) := by decide +kernel
theorem dX11_shape_28 : decode cX11_shape 28 = .ok (.aload_n 0, 1) := by decide +kernel
theorem dX11_shape_29 : decode cX11_shape 29 = .ok (.getfield 23, 3) := by decide +kernel
theorem dX11_shape_32 : decode cX11_shape 32 = .ok (.getfield 112, 3) := by decide +kernel
theorem dX11_shape_35 : decode cX11_shape 35 = .ok (.astore_n 3, 1) := by decide +kernel
theorem dX11_shape_36 : decode cX11_shape 36 = .ok (.iload_n 1, 1) := by decide +kernel
theorem dX11_shape_37 : decode cX11_shape 37 = .ok (.ifCond .ne 34, 3) := by decide +kernel
theorem dX11_shape_40 : decode cX11_shape 40 = .ok (.aload_n 3, 1) := by decide +kernel
theorem dX11_shape_41 : decode cX11_shape 41 = .ok (.getfield 131, 3) := by decide +kernel
theorem dX11_shape_44 : decode cX11_shape 44 = .ok (.aload_n 0, 1) := by decide +kernel
theorem dX11_shape_45 : decode cX11_shape 45 = .ok (.getfield 37, 3) := by decide +kernel
theorem dX11_shape_48 : decode cX11_shape 48 = .ok (.getfield 203, 3) := by decide +kernel
theorem dX11_shape_51 : decode cX11_shape 51 = .ok (.invokevirtual 206, 3) := by decide +kernel
theorem dX11_shape_54 : decode cX11_shape 54 = .ok (.aload_n 0, 1) := by decide +kernel
theorem dX11_shape_55 : decode cX11_shape 55 = .ok (.getfield 51, 3) := by decide +kernel
theorem dX11_shape_58 : decode cX11_shape 58 = .ok (.aload_n 0, 1) := by decide +kernel
theorem dX11_shape_59 : decode cX11_shape 59 = .ok (.getfield 37, 3) := by decide +kernel
theorem dX11_shape_62 : decode cX11_shape 62 = .ok (.getfield 203, 3) := by decide +kernel
theorem dX11_shape_65 : decode cX11_shape 65 = .ok (.invokevirtual 210, 3) := by decide +kernel
theorem dX11_shape_68 : decode cX11_shape 68 = .ok (.goto 54, 3) := by decide +kernel
theorem dX11_shape_71 : decode cX11_shape 71 = .ok (.aload_n 0, 1) := by decide +kernel
theorem dX11_shape_72 : decode cX11_shape 72 = .ok (.getfield 44, 3) := by decide +kernel
theorem dX11_shape_75 : decode cX11_shape 75 = .ok (.aload_n 3, 1) := by decide +kernel
theorem dX11_shape_76 : decode cX11_shape 76 = .ok (.getfield 131, 3) := by decide +kernel
theorem dX11_shape_79 : decode cX11_shape 79 = .ok (.invokevirtual 213, 3) := by decide +kernel
theorem dX11_shape_82 : decode cX11_shape 82 = .ok (.aload_n 0, 1) := by decide +kernel
theorem dX11_shape_83 : decode cX11_shape 83 = .ok (.getfield 44, 3) := by decide +kernel
theorem dX11_shape_86 : decode cX11_shape 86 = .ok (.aload_n 3, 1) := by decide +kernel
theorem dX11_shape_87 : decode cX11_shape 87 = .ok (.getfield 118, 3) := by decide +kernel
theorem dX11_shape_90 : decode cX11_shape 90 = .ok (.invokevirtual 216, 3) := by decide +kernel
theorem dX11_shape_93 : decode cX11_shape 93 = .ok (.aload_n 0, 1) := by decide +kernel
theorem dX11_shape_94 : decode cX11_shape 94 = .ok (.getfield 51, 3) := by decide +kernel
theorem dX11_shape_97 : decode cX11_shape 97 = .ok (.iload_n 1, 1) := by decide +kernel
theorem dX11_shape_98 : decode cX11_shape 98 = .ok (.iconst 1, 1) := by decide +kernel
theorem dX11_shape_99 : decode cX11_shape 99 = .ok (.if_icmp .ne 13, 3) := by decide +kernel
theorem dX11_shape_102 : decode cX11_shape 102 = .ok (.aload_n 0, 1) := by decide +kernel
theorem dX11_shape_103 : decode cX11_shape 103 = .ok (.getfield 44, 3) := by decide +kernel
theorem dX11_shape_106 : decode cX11_shape 106 = .ok (.getfield 219, 3) := by decide +kernel
theorem dX11_shape_109 : decode cX11_shape 109 = .ok (.goto 10, 3) := by decide +kernel
theorem dX11_shape_112 : decode cX11_shape 112 = .ok (.aload_n 0, 1) := by decide +kernel
theorem dX11_shape_113 : decode cX11_shape 113 = .ok (.getfield 44, 3) := by decide +kernel
theorem dX11_shape_116 : decode cX11_shape 116 = .ok (.getfield 222, 3) := by decide +kernel
theorem dX11_shape_119 : decode cX11_shape 119 = .ok (.invokevirtual 210, 3) := by decide +kernel
theorem dX11_shape_122 : decode cX11_shape 122 = .ok (.aload_n 0, 1) := by decide +kernel
theorem dX11_shape_123 : decode cX11_shape 123 = .ok (.getfield 51, 3) := by decide +kernel
theorem dX11_shape_126 : decode cX11_shape 126 = .ok (.iload_n 2, 1) := by decide +kernel
