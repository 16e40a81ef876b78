theorem dX12_look_68 : decode cX12_look 68 = .ok (.invokevirtual 391, 3) := by decide +kernel
theorem dX12_look_71 : decode cX12_look 71 = .ok (.invokevirtual 397, 3) := by decide +kernel
theorem dX12_look_74 : decode cX12_look 74 = .ok (.goto 4, 3) := by decide +kernel
theorem dX12_look_77 : decode cX12_look 77 = .ok (.iconst 1, 1) := by decide +kernel
theorem dX12_look_78 : decode cX12_look 78 = .ok (.istore 5, 2) := by decide +kernel
theorem dX12_look_80 : decode cX12_look 80 = .ok (.iload 5, 2) := by decide +kernel
theorem dX12_look_82 : decode cX12_look 82 = .ok (.iload_n 3, 1) := by decide +kernel
theorem dX12_look_83 : decode cX12_look 83 = .ok (.if_icmp .gt 6, 3) := by decide +kernel
theorem dX12_look_86 : decode cX12_look 86 = .ok (.goto 9, 3) := by decide +kernel
theorem dX12_look_89 : decode cX12_look 89 = .ok (.iload 4, 2) := by decide +kernel
theorem dX12_look_91 : decode cX12_look 91 = .ok (.istore_n 2, 1) := by decide +kernel
theorem dX12_look_92 : decode cX12_look 92 = .ok (.iload 5, 2) := by decide +kernel
theorem dX12_look_94 : decode cX12_look 94 = .ok (.istore_n 3, 1) := by decide +kernel
theorem dX12_look_95 : decode cX12_look 95 = .ok (.iinc 4 1, 3) := by decide +kernel
theorem dX12_look_98 : decode cX12_look 98 = .ok (.goto (-50), 3) := by decide +kernel
theorem dX12_look_101 : decode cX12_look 101 = .ok (.iload_n 1, 1) := by decide +kernel
theorem dX12_look_102 : decode cX12_look 102 = .ok (.ifCond .ne 7, 3) := by decide +kernel
theorem dX12_look_105 : decode cX12_look 105 = .ok (.iload_n 2, 1) := by decide +kernel
theorem dX12_look_106 : decode cX12_look 106 = .ok (.goto 4, 3) := by decide +kernel
theorem dX12_look_109 : decode cX12_look 109 = .ok (.iload_n 3, 1) := by decide +kernel
theorem dX12_look_110 : decode cX12_look 110 = .ok (.ireturn, 1) := by decide +kernel
theorem dX12_forget_0 : decode cX12_forget 0 = .ok (.aload_n 0, 1) := by decide +kernel
theorem dX12_forget_1 : decode cX12_forget 1 = .ok (.iconst 0, 1) := by decide +kernel
theorem dX12_forget_2 : decode cX12_forget 2 = .ok (.putfield 63, 3) := by decide +kernel
theorem dX12_forget_5 : decode cX12_forget 5 = .ok (.aload_n 0, 1) := by decide +kernel
theorem dX12_forget_6 : decode cX12_forget 6 = .ok (.iconst 0, 1) := by decide +kernel
theorem dX12_forget_7 : decode cX12_forget 7 = .ok (.putfield 330, 3) := by decide +kernel
theorem dX12_forget_10 : decode cX12_forget 10 = .ok (.return_, 1) := by decide +kernel
theorem dX12_draw_0 : decode cX12_draw 0 = .ok (.aload_n 0, 1) := by decide +kernel
theorem dX12_draw_1 : decode cX12_draw 1 = .ok (.aload_n 0, 1) := by decide +kernel
theorem dX12_draw_2 : decode cX12_draw 2 = .ok (.getfield 400, 3) := by decide +kernel
theorem dX12_draw_5 : decode cX12_draw 5 = .ok (.ldc_w 403, 3) := by decide +kernel
theorem dX12_draw_8 : decode cX12_draw 8 = .ok (.imul, 1) := by decide +kernel
theorem dX12_draw_9 : decode cX12_draw 9 = .ok (.sipush 12345, 3) := by decide +kernel
theorem dX12_draw_12 : decode cX12_draw 12 = .ok (.iadd, 1) := by decide +kernel
theorem dX12_draw_13 : decode cX12_draw 13 = .ok (.putfield 400, 3) := by decide +kernel
theorem dX12_draw_16 : decode cX12_draw 16 = .ok (.aload_n 0, 1) := by decide +kernel
theorem dX12_draw_17 : decode cX12_draw 17 = .ok (.getfield 400, 3) := by decide +kernel
theorem dX12_draw_20 : decode cX12_draw 20 = .ok (.bipush 16, 2) := by decide +kernel
theorem dX12_draw_22 : decode cX12_draw 22 = .ok (.ishr, 1) := by decide +kernel
theorem dX12_draw_23 : decode cX12_draw 23 = .ok (.sipush 32767, 3) := by decide +kernel
theorem dX12_draw_26 : decode cX12_draw 26 = .ok (.iand, 1) := by decide +kernel
theorem dX12_draw_27 : decode cX12_draw 27 = .ok (.iload_n 1, 1) := by decide +kernel
theorem dX12_draw_28 : decode cX12_draw 28 = .ok (.irem, 1) := by decide +kernel
theorem dX12_draw_29 : decode cX12_draw 29 = .ok (.ireturn, 1) := by decide +kernel
set_option maxRecDepth 20000 in
theorem ggX12_crashesByDraws_X12_draw : GoodIn wsX12_crashesByDraws wsX12_draw := goodIn_r _ [9, 10, 11, 54, 55, 56, 57, 58, 59, 60, 61, 62, 63, 64, 65, 66, 67, 68, 69, 70, 71, 72, 73, 74, 75, 76, 77, 78, 79, 80, 81, 82, 83, 84, 85, 86, 87, 88, 89, 90, 91, 92, 93, 94, 95, 96, 97, 98, 99, 100, 101, 102, 103, 104] (by decide +kernel) (by decide +kernel)
set_option maxRecDepth 20000 in
theorem gX12_crashesByDraws_X12_draw : GoodIn wsX12_crashesByDraws (wsV RX12 404 RX12 yX12_draw wsX12_draw) := goodIn_app (goodIn_of _ (by decide +kernel)) ggX12_crashesByDraws_X12_draw
set_option maxRecDepth 20000 in
theorem ggX12_crashesByDraws_X12_crashes : GoodIn wsX12_crashesByDraws wsX12_crashes := goodIn_r _ [15, 1, 16, 17, 18, 19, 8, 20, 21, 4, 22, 23, 24, 25, 26, 27, 28, 29, 30, 31, 32, 33, 34, 35, 36, 37, 38, 39, 40, 41, 42, 43, 44, 45, 46, 47, 48, 49, 50, 51, 52, 53, 2, 54, 55, 56, 57, 58, 59, 60, 61, 62, 63, 64, 65, 66, 67, 68, 69, 70, 71, 72, 73, 74, 75, 76, 77, 78, 79, 80, 81, 82, 83, 84, 85, 86, 87, 88, 89, 90, 91, 92, 93, 94, 95, 96, 97, 98, 99, 100, 101, 102, 103, 104] (by decide +kernel) (by decide +kernel)
set_option maxRecDepth 20000 in
theorem gX12_crashesByDraws_X12_crashes : GoodIn wsX12_crashesByDraws (wsV RX12 363 RX12 yX12_crashes wsX12_crashes) := goodIn_app (goodIn_of _ (by decide +kernel)) ggX12_crashesByDraws_X12_crashes
set_option maxRecDepth 20000 in
theorem ggX12_crashesByDraws_X12_laysMemory : GoodIn wsX12_crashesByDraws wsX12_laysMemory := goodIn_r _ [26, 4, 1, 54, 55, 56, 57, 58, 59, 60, 61, 62, 63, 64, 65, 66, 67, 68, 69, 70, 71, 72, 73, 74, 75, 76, 77, 78, 79, 80, 81, 82, 83, 84, 85, 86, 87, 88, 89, 90, 91, 92, 93, 94, 95, 96, 97, 98, 99, 100, 101, 102, 103, 104] (by decide +kernel) (by decide +kernel)
set_option maxRecDepth 20000 in
theorem gX12_crashesByDraws_X12_laysMemory : GoodIn wsX12_crashesByDraws (wsV RX12 175 RX12 yX12_laysMemory wsX12_laysMemory) := goodIn_app (goodIn_of _ (by decide +kernel)) ggX12_crashesByDraws_X12_laysMemory
set_option maxRecDepth 20000 in
theorem ggX12_crashesByDraws_X12_recovers : GoodIn wsX12_crashesByDraws wsX12_recovers := goodIn_r _ [30, 31, 32, 8, 33, 34, 35, 36, 37, 38, 39, 40, 41, 54, 55, 56, 57, 58, 59, 60, 61, 62, 63, 64, 65, 66, 67, 68, 69, 70, 71, 72, 73, 74, 75, 76, 77, 78, 79, 80, 81, 82, 83, 84, 85, 86, 87, 88, 89, 90, 91, 92, 93, 94, 95, 96, 97, 98, 99, 100, 101, 102, 103, 104] (by decide +kernel) (by decide +kernel)
set_option maxRecDepth 20000 in
theorem gX12_crashesByDraws_X12_recovers : GoodIn wsX12_crashesByDraws (wsV RX12 178 RX12 yX12_recovers wsX12_recovers) := goodIn_app (goodIn_of _ (by decide +kernel)) ggX12_crashesByDraws_X12_recovers
theorem dX12_crashesByDraws_0 : decode cX12_crashesByDraws 0 = .ok (.aload_n 0, 1) := by decide +kernel
theorem dX12_crashesByDraws_1 : decode cX12_crashesByDraws 1 = .ok (.getfield 10, 3) := by decide +kernel
theorem dX12_crashesByDraws_4 : decode cX12_crashesByDraws 4 = .ok (.sipush 1558, 3) := by decide +kernel
theorem dX12_crashesByDraws_7 : decode cX12_crashesByDraws 7 = .ok (.iaload, 1) := by decide +kernel
theorem dX12_crashesByDraws_8 : decode cX12_crashesByDraws 8 = .ok (.iconst 1, 1) := by decide +kernel
theorem dX12_crashesByDraws_9 : decode cX12_crashesByDraws 9 = .ok (.if_icmp .eq 77, 3) := by decide +kernel
theorem dX12_crashesByDraws_12 : decode cX12_crashesByDraws 12 = .ok (.iconst 0, 1) := by decide +kernel
theorem dX12_crashesByDraws_13 : decode cX12_crashesByDraws 13 = .ok (.istore_n 1, 1) := by decide +kernel
theorem dX12_crashesByDraws_14 : decode cX12_crashesByDraws 14 = .ok (.iload_n 1, 1) := by decide +kernel
theorem dX12_crashesByDraws_15 : decode cX12_crashesByDraws 15 = .ok (.bipush 16, 2) := by decide +kernel
theorem dX12_crashesByDraws_17 : decode cX12_crashesByDraws 17 = .ok (.if_icmp .ge 48, 3) := by decide +kernel
theorem dX12_crashesByDraws_20 : decode cX12_crashesByDraws 20 = .ok (.aload_n 0, 1) := by decide +kernel
theorem dX12_crashesByDraws_21 : decode cX12_crashesByDraws 21 = .ok (.getfield 42, 3) := by decide +kernel
theorem dX12_crashesByDraws_24 : decode cX12_crashesByDraws 24 = .ok (.iload_n 1, 1) := by decide +kernel
theorem dX12_crashesByDraws_25 : decode cX12_crashesByDraws 25 = .ok (.aload_n 0, 1) := by decide +kernel
theorem dX12_crashesByDraws_26 : decode cX12_crashesByDraws 26 = .ok (.getfield 10, 3) := by decide +kernel
theorem dX12_crashesByDraws_29 : decode cX12_crashesByDraws 29 = .ok (.sipush 850, 3) := by decide +kernel
theorem dX12_crashesByDraws_32 : decode cX12_crashesByDraws 32 = .ok (.iload_n 1, 1) := by decide +kernel
theorem dX12_crashesByDraws_33 : decode cX12_crashesByDraws 33 = .ok (.iadd, 1) := by decide +kernel
theorem dX12_crashesByDraws_34 : decode cX12_crashesByDraws 34 = .ok (.iaload, 1) := by decide +kernel
theorem dX12_crashesByDraws_35 : decode cX12_crashesByDraws 35 = .ok (.ifCond .ne 7, 3) := by decide +kernel
theorem dX12_crashesByDraws_38 : decode cX12_crashesByDraws 38 = .ok (.iconst 0, 1) := by decide +kernel
theorem dX12_crashesByDraws_39 : decode cX12_crashesByDraws 39 = .ok (.goto 19, 3) := by decide +kernel
theorem dX12_crashesByDraws_42 : decode cX12_crashesByDraws 42 = .ok (.aload_n 0, 1) := by decide +kernel
theorem dX12_crashesByDraws_43 : decode cX12_crashesByDraws 43 = .ok (.aload_n 0, 1) := by decide +kernel
theorem dX12_crashesByDraws_44 : decode cX12_crashesByDraws 44 = .ok (.getfield 10, 3) := by decide +kernel
theorem dX12_crashesByDraws_47 : decode cX12_crashesByDraws 47 = .ok (.sipush 850, 3) := by decide +kernel
theorem dX12_crashesByDraws_50 : decode cX12_crashesByDraws 50 = .ok (.iload_n 1, 1) := by decide +kernel
theorem dX12_crashesByDraws_51 : decode cX12_crashesByDraws 51 = .ok (.iadd, 1) := by decide +kernel
theorem dX12_crashesByDraws_52 : decode cX12_crashesByDraws 52 = .ok (.iaload, 1) := by decide +kernel
theorem dX12_crashesByDraws_53 : decode cX12_crashesByDraws 53 = .ok (.iconst 1, 1) := by decide +kernel
theorem dX12_crashesByDraws_54 : decode cX12_crashesByDraws 54 = .ok (.iadd, 1) := by decide +kernel
theorem dX12_crashesByDraws_55 : decode cX12_crashesByDraws 55 = .ok (.invokevirtual 404, 3) := by decide +kernel
theorem dX12_crashesByDraws_58 : decode cX12_crashesByDraws 58 = .ok (.iastore, 1) := by decide +kernel
theorem dX12_crashesByDraws_59 : decode cX12_crashesByDraws 59 = .ok (.iinc 1 1, 3) := by decide +kernel
theorem dX12_crashesByDraws_62 : decode cX12_crashesByDraws 62 = .ok (.goto (-48), 3) := by decide +kernel
theorem dX12_crashesByDraws_65 : decode cX12_crashesByDraws 65 = .ok (.aload_n 0, 1) := by decide +kernel
theorem dX12_crashesByDraws_66 : decode cX12_crashesByDraws 66 = .ok (.sipush 786, 3) := by decide +kernel
theorem dX12_crashesByDraws_69 : decode cX12_crashesByDraws 69 = .ok (.invokevirtual 363, 3) := by decide +kernel
theorem dX12_crashesByDraws_72 : decode cX12_crashesByDraws 72 = .ok (.iconst 3, 1) := by decide +kernel
theorem dX12_crashesByDraws_73 : decode cX12_crashesByDraws 73 = .ok (.if_icmp .ne 13, 3) := by decide +kernel
theorem dX12_crashesByDraws_76 : decode cX12_crashesByDraws 76 = .ok (.aload_n 0, 1) := by decide +kernel
theorem dX12_crashesByDraws_77 : decode cX12_crashesByDraws 77 = .ok (.dup, 1) := by decide +kernel
theorem dX12_crashesByDraws_78 : decode cX12_crashesByDraws 78 = .ok (.getfield 407, 3) := by decide +kernel
theorem dX12_crashesByDraws_81 : decode cX12_crashesByDraws 81 = .ok (.iconst 1, 1) := by decide +kernel
theorem dX12_crashesByDraws_82 : decode cX12_crashesByDraws 82 = .ok (.iadd, 1) := by decide +kernel
theorem dX12_crashesByDraws_83 : decode cX12_crashesByDraws 83 = .ok (.putfield 407, 3) := by decide +kernel
theorem dX12_crashesByDraws_86 : decode cX12_crashesByDraws 86 = .ok (.aload_n 0, 1) := by decide +kernel
theorem dX12_crashesByDraws_87 : decode cX12_crashesByDraws 87 = .ok (.sipush 786, 3) := by decide +kernel
theorem dX12_crashesByDraws_90 : decode cX12_crashesByDraws 90 = .ok (.invokevirtual 175, 3) := by decide +kernel
theorem dX12_crashesByDraws_93 : decode cX12_crashesByDraws 93 = .ok (.aload_n 0, 1) := by decide +kernel
theorem dX12_crashesByDraws_94 : decode cX12_crashesByDraws 94 = .ok (.aload_n 0, 1) := by decide +kernel
theorem dX12_crashesByDraws_95 : decode cX12_crashesByDraws 95 = .ok (.getfield 39, 3) := by decide +kernel
theorem dX12_crashesByDraws_98 : decode cX12_crashesByDraws 98 = .ok (.invokevirtual 178, 3) := by decide +kernel
theorem dX12_crashesByDraws_101 : decode cX12_crashesByDraws 101 = .ok (.iconst 0, 1) := by decide +kernel
theorem dX12_crashesByDraws_102 : decode cX12_crashesByDraws 102 = .ok (.istore_n 1, 1) := by decide +kernel
theorem dX12_crashesByDraws_103 : decode cX12_crashesByDraws 103 = .ok (.iload_n 1, 1) := by decide +kernel
theorem dX12_crashesByDraws_104 : decode cX12_crashesByDraws 104 = .ok (.bipush 64, 2) := by decide +kernel
theorem dX12_crashesByDraws_106 : decode cX12_crashesByDraws 106 = .ok (.if_icmp .ge 25, 3) := by decide +kernel
theorem dX12_crashesByDraws_109 : decode cX12_crashesByDraws 109 = .ok (.aload_n 0, 1) := by decide +kernel
theorem dX12_crashesByDraws_110 : decode cX12_crashesByDraws 110 = .ok (.getfield 10, 3) := by decide +kernel
theorem dX12_crashesByDraws_113 : decode cX12_crashesByDraws 113 = .ok (.sipush 786, 3) := by decide +kernel
theorem dX12_crashesByDraws_116 : decode cX12_crashesByDraws 116 = .ok (.iload_n 1, 1) := by decide +kernel
theorem dX12_crashesByDraws_117 : decode cX12_crashesByDraws 117 = .ok (.iadd, 1) := by decide +kernel
theorem dX12_crashesByDraws_118 : decode cX12_crashesByDraws 118 = .ok (.aload_n 0, 1) := by decide +kernel
theorem dX12_crashesByDraws_119 : decode cX12_crashesByDraws 119 = .ok (.getfield 39, 3) := by decide +kernel
theorem dX12_crashesByDraws_122 : decode cX12_crashesByDraws 122 = .ok (.iload_n 1, 1) := by decide +kernel
theorem dX12_crashesByDraws_123 : decode cX12_crashesByDraws 123 = .ok (.iaload, 1) := by decide +kernel
theorem dX12_crashesByDraws_124 : decode cX12_crashesByDraws 124 = .ok (.iastore, 1) := by decide +kernel
theorem dX12_crashesByDraws_125 : decode cX12_crashesByDraws 125 = .ok (.iinc 1 1, 3) := by decide +kernel
theorem dX12_crashesByDraws_128 : decode cX12_crashesByDraws 128 = .ok (.goto (-25), 3) := by decide +kernel
theorem dX12_crashesByDraws_131 : decode cX12_crashesByDraws 131 = .ok (.aload_n 0, 1) := by decide +kernel
theorem dX12_crashesByDraws_132 : decode cX12_crashesByDraws 132 = .ok (.getfield 10, 3) := by decide +kernel
theorem dX12_crashesByDraws_135 : decode cX12_crashesByDraws 135 = .ok (.sipush 1558, 3) := by decide +kernel
theorem dX12_crashesByDraws_138 : decode cX12_crashesByDraws 138 = .ok (.iconst 0, 1) := by decide +kernel
theorem dX12_crashesByDraws_139 : decode cX12_crashesByDraws 139 = .ok (.iastore, 1) := by decide +kernel
theorem dX12_crashesByDraws_140 : decode cX12_crashesByDraws 140 = .ok (.return_, 1) := by decide +kernel
set_option maxRecDepth 20000 in
theorem ggX12_year_X12_draw : GoodIn wsX12_year wsX12_draw := goodIn_r _ [6, 7, 8, 164, 165, 166, 167, 168, 169, 170, 171, 172, 173, 174, 175, 176, 177, 178, 179, 180, 181, 182, 183, 184, 185, 186, 187, 188, 189, 190, 191, 192, 193, 194, 195, 196, 197, 198, 199, 200, 201, 202, 203, 204, 205, 206, 207, 208, 209, 210, 211, 212, 213, 214] (by decide +kernel) (by decide +kernel)
set_option maxRecDepth 20000 in
theorem gX12_year_X12_draw : GoodIn wsX12_year (wsV RX12 404 RX12 yX12_draw wsX12_draw) := goodIn_app (goodIn_of _ (by decide +kernel)) ggX12_year_X12_draw
set_option maxRecDepth 20000 in
theorem ggX12_year_X12_goes : GoodIn wsX12_year wsX12_goes := goodIn_r _ [12, 13, 14, 15, 5, 16, 1, 17, 18, 19, 20, 21, 22, 23, 24, 25, 26, 27, 28, 29, 30, 31, 32, 33, 34, 35, 36, 37, 38, 39, 40, 41, 42, 43, 44, 45, 46, 47, 48, 49, 50, 51, 52, 53, 54, 55, 56, 57, 58, 59, 60, 61, 62, 63, 64, 65, 66, 67, 68, 69, 70, 71, 72, 73, 74, 75, 76, 77, 78, 79, 80, 81, 82, 83, 84, 85, 86, 87, 88, 89, 90, 91, 92, 93, 94, 95, 96, 97, 98, 99, 100, 101, 102, 103, 104, 105, 106, 107, 108, 109, 110, 111, 112, 113, 114, 115, 164, 165, 166, 167, 168, 169, 170, 171, 172, 173, 174, 175, 176, 177, 178, 179, 180, 181, 182, 183, 184, 185, 186, 187, 188, 189, 190, 191, 192, 193, 194, 195, 196, 197, 198, 199, 200, 201, 202, 203, 204, 205, 206, 207, 208, 209, 210, 211, 212, 213, 214] (by decide +kernel) (by decide +kernel)
set_option maxRecDepth 20000 in
theorem gX12_year_X12_goes : GoodIn wsX12_year (wsV RX12 351 RX12 yX12_goes wsX12_goes) := goodIn_app (goodIn_of _ (by decide +kernel)) ggX12_year_X12_goes
set_option maxRecDepth 20000 in
theorem ggX12_year_X12_reaches : GoodIn wsX12_year wsX12_reaches := goodIn_r _ [115, 1, 164, 165, 166, 167, 168, 169, 170, 171, 172, 173, 174, 175, 176, 177, 178, 179, 180, 181, 182, 183, 184, 185, 186, 187, 188, 189, 190, 191, 192, 193, 194, 195, 196, 197, 198, 199, 200, 201, 202, 203, 204, 205, 206, 207, 208, 209, 210, 211, 212, 213, 214] (by decide +kernel) (by decide +kernel)
set_option maxRecDepth 20000 in
theorem gX12_year_X12_reaches : GoodIn wsX12_year (wsV RX12 66 RX12 yX12_reaches wsX12_reaches) := goodIn_app (goodIn_of _ (by decide +kernel)) ggX12_year_X12_reaches
set_option maxRecDepth 20000 in
theorem ggX12_year_X12_crashesByDraws : GoodIn wsX12_year wsX12_crashesByDraws := goodIn_r _ [119, 1, 120, 121, 122, 2, 3, 4, 5, 6, 7, 8, 123, 124, 125, 126, 127, 128, 129, 130, 131, 132, 133, 134, 135, 136, 137, 138, 139, 140, 141, 142, 143, 144, 145, 146, 147, 148, 79, 149, 150, 151, 31, 32, 33, 34, 152, 153, 154, 155, 156, 157, 158, 159, 164, 165, 166, 167, 168, 169, 170, 171, 172, 173, 174, 175, 176, 177, 178, 179, 180, 181, 182, 183, 184, 185, 186, 187, 188, 189, 190, 191, 192, 193, 194, 195, 196, 197, 198, 199, 200, 201, 202, 203, 204, 205, 206, 207, 208, 209, 210, 211, 212, 213, 214] (by decide +kernel) (by decide +kernel)
set_option maxRecDepth 20000 in
theorem gX12_year_X12_crashesByDraws : GoodIn wsX12_year (wsV RX12 410 RX12 yX12_crashesByDraws wsX12_crashesByDraws) := goodIn_app (goodIn_of _ (by decide +kernel)) ggX12_year_X12_crashesByDraws
set_option maxRecDepth 20000 in
theorem ggX12_year_X12_waits : GoodIn wsX12_year wsX12_waits := goodIn_r _ [163, 1, 164, 165, 166, 167, 168, 169, 170, 171, 172, 173, 174, 175, 176, 177, 178, 179, 180, 181, 182, 183, 184, 185, 186, 187, 188, 189, 190, 191, 192, 193, 194, 195, 196, 197, 198, 199, 200, 201, 202, 203, 204, 205, 206, 207, 208, 209, 210, 211, 212, 213, 214] (by decide +kernel) (by decide +kernel)
set_option maxRecDepth 20000 in
theorem gX12_year_X12_waits : GoodIn wsX12_year (wsV RX12 369 RX12 yX12_waits wsX12_waits) := goodIn_app (goodIn_of _ (by decide +kernel)) ggX12_year_X12_waits
theorem dX12_year_0 : decode cX12_year 0 = .ok (.aload_n 0, 1) := by decide +kernel
theorem dX12_year_1 : decode cX12_year 1 = .ok (.bipush 8, 2) := by decide +kernel
theorem dX12_year_3 : decode cX12_year 3 = .ok (.invokevirtual 404, 3) := by decide +kernel
theorem dX12_year_6 : decode cX12_year 6 = .ok (.istore_n 1, 1) := by decide +kernel
theorem dX12_year_7 : decode cX12_year 7 = .ok (.iload_n 1, 1) := by decide +kernel
theorem dX12_year_8 : decode cX12_year 8 = .ok (.iconst 4, 1) := by decide +kernel
theorem dX12_year_9 : decode cX12_year 9 = .ok (.if_icmp .ge 22, 3) := by decide +kernel
theorem dX12_year_12 : decode cX12_year 12 = .ok (.aload_n 0, 1) := by decide +kernel
theorem dX12_year_13 : decode cX12_year 13 = .ok (.sipush 786, 3) := by decide +kernel
theorem dX12_year_16 : decode cX12_year 16 = .ok (.aload_n 0, 1) := by decide +kernel
theorem dX12_year_17 : decode cX12_year 17 = .ok (.bipush 6, 2) := by decide +kernel
theorem dX12_year_19 : decode cX12_year 19 = .ok (.invokevirtual 404, 3) := by decide +kernel
theorem dX12_year_22 : decode cX12_year 22 = .ok (.iconst 1, 1) := by decide +kernel
theorem dX12_year_23 : decode cX12_year 23 = .ok (.iadd, 1) := by decide +kernel
theorem dX12_year_24 : decode cX12_year 24 = .ok (.invokevirtual 351, 3) := by decide +kernel
theorem dX12_year_27 : decode cX12_year 27 = .ok (.pop, 1) := by decide +kernel
theorem dX12_year_28 : decode cX12_year 28 = .ok (.goto 101, 3) := by decide +kernel
theorem dX12_year_31 : decode cX12_year 31 = .ok (.iload_n 1, 1) := by decide +kernel
theorem dX12_year_32 : decode cX12_year 32 = .ok (.iconst 4, 1) := by decide +kernel
theorem dX12_year_33 : decode cX12_year 33 = .ok (.if_icmp .ne 35, 3) := by decide +kernel
theorem dX12_year_36 : decode cX12_year 36 = .ok (.aload_n 0, 1) := by decide +kernel
theorem dX12_year_37 : decode cX12_year 37 = .ok (.bipush 16, 2) := by decide +kernel
theorem dX12_year_39 : decode cX12_year 39 = .ok (.invokevirtual 404, 3) := by decide +kernel
theorem dX12_year_42 : decode cX12_year 42 = .ok (.istore_n 2, 1) := by decide +kernel
theorem dX12_year_43 : decode cX12_year 43 = .ok (.aload_n 0, 1) := by decide +kernel
theorem dX12_year_44 : decode cX12_year 44 = .ok (.getfield 10, 3) := by decide +kernel
theorem dX12_year_47 : decode cX12_year 47 = .ok (.sipush 850, 3) := by decide +kernel
theorem dX12_year_50 : decode cX12_year 50 = .ok (.iload_n 2, 1) := by decide +kernel
theorem dX12_year_51 : decode cX12_year 51 = .ok (.iadd, 1) := by decide +kernel
theorem dX12_year_52 : decode cX12_year 52 = .ok (.iaload, 1) := by decide +kernel
theorem dX12_year_53 : decode cX12_year 53 = .ok (.ifCond .le 12, 3) := by decide +kernel
theorem dX12_year_56 : decode cX12_year 56 = .ok (.aload_n 0, 1) := by decide +kernel
theorem dX12_year_57 : decode cX12_year 57 = .ok (.sipush 786, 3) := by decide +kernel
theorem dX12_year_60 : decode cX12_year 60 = .ok (.iload_n 2, 1) := by decide +kernel
theorem dX12_year_61 : decode cX12_year 61 = .ok (.iconst 1, 1) := by decide +kernel
theorem dX12_year_62 : decode cX12_year 62 = .ok (.invokevirtual 66, 3) := by decide +kernel
theorem dX12_year_65 : decode cX12_year 65 = .ok (.goto 64, 3) := by decide +kernel
theorem dX12_year_68 : decode cX12_year 68 = .ok (.iload_n 1, 1) := by decide +kernel
theorem dX12_year_69 : decode cX12_year 69 = .ok (.iconst 5, 1) := by decide +kernel
theorem dX12_year_70 : decode cX12_year 70 = .ok (.if_icmp .ne 10, 3) := by decide +kernel
theorem dX12_year_73 : decode cX12_year 73 = .ok (.aload_n 0, 1) := by decide +kernel
theorem dX12_year_74 : decode cX12_year 74 = .ok (.invokevirtual 410, 3) := by decide +kernel
theorem dX12_year_77 : decode cX12_year 77 = .ok (.goto 52, 3) := by decide +kernel
theorem dX12_year_80 : decode cX12_year 80 = .ok (.aload_n 0, 1) := by decide +kernel
theorem dX12_year_81 : decode cX12_year 81 = .ok (.iconst 4, 1) := by decide +kernel
theorem dX12_year_82 : decode cX12_year 82 = .ok (.invokevirtual 404, 3) := by decide +kernel
theorem dX12_year_85 : decode cX12_year 85 = .ok (.istore_n 2, 1) := by decide +kernel
theorem dX12_year_86 : decode cX12_year 86 = .ok (.iload_n 1, 1) := by decide +kernel
theorem dX12_year_87 : decode cX12_year 87 = .ok (.bipush 6, 2) := by decide +kernel
theorem dX12_year_89 : decode cX12_year 89 = .ok (.if_icmp .ne 12, 3) := by decide +kernel
theorem dX12_year_92 : decode cX12_year 92 = .ok (.aload_n 0, 1) := by decide +kernel
theorem dX12_year_93 : decode cX12_year 93 = .ok (.bipush 10, 2) := by decide +kernel
theorem dX12_year_95 : decode cX12_year 95 = .ok (.invokevirtual 404, 3) := by decide +kernel
theorem dX12_year_98 : decode cX12_year 98 = .ok (.goto 4, 3) := by decide +kernel
theorem dX12_year_101 : decode cX12_year 101 = .ok (.iconst 0, 1) := by decide +kernel
theorem dX12_year_102 : decode cX12_year 102 = .ok (.istore_n 3, 1) := by decide +kernel
theorem dX12_year_103 : decode cX12_year 103 = .ok (.aload_n 0, 1) := by decide +kernel
theorem dX12_year_104 : decode cX12_year 104 = .ok (.getfield 10, 3) := by decide +kernel
theorem dX12_year_107 : decode cX12_year 107 = .ok (.sipush 1563, 3) := by decide +kernel
theorem dX12_year_110 : decode cX12_year 110 = .ok (.iaload, 1) := by decide +kernel
theorem dX12_year_111 : decode cX12_year 111 = .ok (.bipush 12, 2) := by decide +kernel
theorem dX12_year_113 : decode cX12_year 113 = .ok (.if_icmp .ge 16, 3) := by decide +kernel
theorem dX12_year_116 : decode cX12_year 116 = .ok (.aload_n 0, 1) := by decide +kernel
theorem dX12_year_117 : decode cX12_year 117 = .ok (.sipush 786, 3) := by decide +kernel
theorem dX12_year_120 : decode cX12_year 120 = .ok (.iload_n 1, 1) := by decide +kernel
theorem dX12_year_121 : decode cX12_year 121 = .ok (.bipush 6, 2) := by decide +kernel
theorem dX12_year_123 : decode cX12_year 123 = .ok (.isub, 1) := by decide +kernel
theorem dX12_year_124 : decode cX12_year 124 = .ok (.iload_n 2, 1) := by decide +kernel
theorem dX12_year_125 : decode cX12_year 125 = .ok (.iload_n 3, 1) := by decide +kernel
theorem dX12_year_126 : decode cX12_year 126 = .ok (.invokevirtual 369, 3) := by decide +kernel
theorem dX12_year_129 : decode cX12_year 129 = .ok (.return_, 1) := by decide +kernel
set_option maxRecDepth 20000 in
theorem ggX12_years_X12_within : GoodIn wsX12_years wsX12_within := goodIn_r _ [9] (by decide +kernel) (by decide +kernel)
set_option maxRecDepth 20000 in
theorem gX12_years_X12_within : GoodIn wsX12_years (va_wsS RX12 172 yX12_within wsX12_within) := goodIn_app (goodIn_of _ (by decide +kernel)) ggX12_years_X12_within
set_option maxRecDepth 20000 in
theorem ggX12_years_X12_right : GoodIn wsX12_years wsX12_right := goodIn_r _ [13, 1, 184, 185, 186, 187, 188, 189, 190, 191, 192, 193, 194, 195, 196, 197, 198, 199, 200, 201, 202, 203, 204, 205, 206, 207, 208, 209, 210, 211, 212, 213, 214, 215, 216, 217, 218, 219, 220, 221, 222, 223, 224, 225, 226, 227, 228, 229, 230, 231, 232, 233, 234] (by decide +kernel) (by decide +kernel)
set_option maxRecDepth 20000 in
theorem gX12_years_X12_right : GoodIn wsX12_years (wsV RX12 321 RX12 yX12_right wsX12_right) := goodIn_app (goodIn_of _ (by decide +kernel)) ggX12_years_X12_right
set_option maxRecDepth 20000 in
theorem ggX12_years_X12_tries : GoodIn wsX12_years wsX12_tries := goodIn_r _ [17, 18, 19, 20, 8, 21, 4, 184, 185, 186, 187, 188, 189, 190, 191, 192, 193, 194, 195, 196, 197, 198, 199, 200, 201, 202, 203, 204, 205, 206, 207, 208, 209, 210, 211, 212, 213, 214, 215, 216, 217, 218, 219, 220, 221, 222, 223, 224, 225, 226, 227, 228, 229, 230, 231, 232, 233, 234] (by decide +kernel) (by decide +kernel)
set_option maxRecDepth 20000 in
theorem gX12_years_X12_tries : GoodIn wsX12_years (wsV RX12 218 RX12 yX12_tries wsX12_tries) := goodIn_app (goodIn_of _ (by decide +kernel)) ggX12_years_X12_tries
set_option maxRecDepth 20000 in
theorem ggX12_years_X12_year : GoodIn wsX12_years wsX12_year := goodIn_r _ [25, 4, 26, 27, 28, 8, 29, 2, 30, 31, 32, 33, 34, 35, 36, 37, 38, 39, 40, 41, 42, 43, 44, 45, 46, 47, 48, 49, 50, 51, 52, 53, 54, 55, 56, 57, 58, 59, 60, 61, 62, 63, 64, 65, 66, 67, 68, 69, 70, 71, 72, 73, 74, 75, 76, 77, 78, 79, 80, 81, 82, 83, 84, 85, 86, 87, 88, 89, 90, 91, 92, 93, 94, 95, 96, 97, 98, 99, 100, 101, 102, 103, 104, 105, 106, 107, 108, 109, 110, 111, 112, 113, 114, 115, 116, 117, 118, 119, 120, 121, 122, 123, 124, 125, 126, 127, 128, 129, 130, 131, 132, 133, 134, 135, 136, 137, 138, 139, 140, 141, 142, 3, 5, 143, 144, 145, 146, 147, 148, 149, 150, 151, 152, 153, 154, 155, 156, 157, 158, 159, 160, 161, 162, 163, 164, 165, 166, 167, 168, 6, 7, 9, 169, 170, 171, 172, 173, 174, 175, 176, 177, 178, 179, 180, 184, 185, 186, 187, 188, 189, 190, 191, 192, 193, 194, 195, 196, 197, 198, 199, 200, 201, 202, 203, 204, 205, 206, 207, 208, 209, 210, 211, 212, 213, 214, 215, 216, 217, 218, 219, 220, 221, 222, 223, 224, 225, 226, 227, 228, 229, 230, 231, 232, 233, 234] (by decide +kernel) (by decide +kernel)
set_option maxRecDepth 20000 in
theorem gX12_years_X12_year : GoodIn wsX12_years (wsV RX12 413 RX12 yX12_year wsX12_year) := goodIn_app (goodIn_of _ (by decide +kernel)) ggX12_years_X12_year
set_option maxRecDepth 20000 in
theorem ggX12_years_X12_laysMemory : GoodIn wsX12_years wsX12_laysMemory := goodIn_r _ [157, 5, 4, 184, 185, 186, 187, 188, 189, 190, 191, 192, 193, 194, 195, 196, 197, 198, 199, 200, 201, 202, 203, 204, 205, 206, 207, 208, 209, 210, 211, 212, 213, 214, 215, 216, 217, 218, 219, 220, 221, 222, 223, 224, 225, 226, 227, 228, 229, 230, 231, 232, 233, 234] (by decide +kernel) (by decide +kernel)
set_option maxRecDepth 20000 in
theorem gX12_years_X12_laysMemory : GoodIn wsX12_years (wsV RX12 175 RX12 yX12_laysMemory wsX12_laysMemory) := goodIn_app (goodIn_of _ (by decide +kernel)) ggX12_years_X12_laysMemory
set_option maxRecDepth 20000 in
theorem ggX12_years_X12_leaked : GoodIn wsX12_years wsX12_leaked := goodIn_r _ [70, 71, 72, 73, 74, 8, 75, 76, 77, 78, 79, 80, 81, 82, 83, 84, 85, 86, 87, 88, 89, 90, 91, 92, 184, 185, 186, 187, 188, 189, 190, 191, 192, 193, 194, 195, 196, 197, 198, 199, 200, 201, 202, 203, 204, 205, 206, 207, 208, 209, 210, 211, 212, 213, 214, 215, 216, 217, 218, 219, 220, 221, 222, 223, 224, 225, 226, 227, 228, 229, 230, 231, 232, 233, 234] (by decide +kernel) (by decide +kernel)
set_option maxRecDepth 20000 in
theorem gX12_years_X12_leaked : GoodIn wsX12_years (wsV RX12 111 RX12 yX12_leaked wsX12_leaked) := goodIn_app (goodIn_of _ (by decide +kernel)) ggX12_years_X12_leaked
set_option maxRecDepth 20000 in
theorem ggX12_years_X12_bits : GoodIn wsX12_years wsX12_bits := goodIn_r _ [183] (by decide +kernel) (by decide +kernel)
set_option maxRecDepth 20000 in
theorem gX12_years_X12_bits : GoodIn wsX12_years (va_wsS RX12 379 yX12_bits wsX12_bits) := goodIn_app (goodIn_of _ (by decide +kernel)) ggX12_years_X12_bits
theorem dX12_years_0 : decode cX12_years 0 = .ok (.aload_n 0, 1) := by decide +kernel
theorem dX12_years_1 : decode cX12_years 1 = .ok (.iconst 0, 1) := by decide +kernel
theorem dX12_years_2 : decode cX12_years 2 = .ok (.putfield 63, 3) := by decide +kernel
theorem dX12_years_5 : decode cX12_years 5 = .ok (.aload_n 0, 1) := by decide +kernel
theorem dX12_years_6 : decode cX12_years 6 = .ok (.iload_n 3, 1) := by decide +kernel
theorem dX12_years_7 : decode cX12_years 7 = .ok (.iconst 0, 1) := by decide +kernel
theorem dX12_years_8 : decode cX12_years 8 = .ok (.iconst 2, 1) := by decide +kernel
theorem dX12_years_9 : decode cX12_years 9 = .ok (.invokestatic 172, 3) := by decide +kernel
theorem dX12_years_12 : decode cX12_years 12 = .ok (.iconst 1, 1) := by decide +kernel
theorem dX12_years_13 : decode cX12_years 13 = .ok (.invokevirtual 321, 3) := by decide +kernel
theorem dX12_years_16 : decode cX12_years 16 = .ok (.ifCond .eq 18, 3) := by decide +kernel
theorem dX12_years_19 : decode cX12_years 19 = .ok (.aload_n 0, 1) := by decide +kernel
theorem dX12_years_20 : decode cX12_years 20 = .ok (.iload_n 2, 1) := by decide +kernel
theorem dX12_years_21 : decode cX12_years 21 = .ok (.iconst 0, 1) := by decide +kernel
theorem dX12_years_22 : decode cX12_years 22 = .ok (.bipush 30, 2) := by decide +kernel
theorem dX12_years_24 : decode cX12_years 24 = .ok (.invokestatic 172, 3) := by decide +kernel
theorem dX12_years_27 : decode cX12_years 27 = .ok (.iconst 2, 1) := by decide +kernel
theorem dX12_years_28 : decode cX12_years 28 = .ok (.invokevirtual 321, 3) := by decide +kernel
theorem dX12_years_31 : decode cX12_years 31 = .ok (.ifCond .ne 5, 3) := by decide +kernel
theorem dX12_years_34 : decode cX12_years 34 = .ok (.iconst 0, 1) := by decide +kernel
theorem dX12_years_35 : decode cX12_years 35 = .ok (.ireturn, 1) := by decide +kernel
theorem dX12_years_36 : decode cX12_years 36 = .ok (.aload_n 0, 1) := by decide +kernel
theorem dX12_years_37 : decode cX12_years 37 = .ok (.invokevirtual 218, 3) := by decide +kernel
theorem dX12_years_40 : decode cX12_years 40 = .ok (.aload_n 0, 1) := by decide +kernel
theorem dX12_years_41 : decode cX12_years 41 = .ok (.iload_n 1, 1) := by decide +kernel
theorem dX12_years_42 : decode cX12_years 42 = .ok (.putfield 400, 3) := by decide +kernel
theorem dX12_years_45 : decode cX12_years 45 = .ok (.aload_n 0, 1) := by decide +kernel
theorem dX12_years_46 : decode cX12_years 46 = .ok (.iconst 0, 1) := by decide +kernel
theorem dX12_years_47 : decode cX12_years 47 = .ok (.putfield 407, 3) := by decide +kernel
theorem dX12_years_50 : decode cX12_years 50 = .ok (.iconst 0, 1) := by decide +kernel
theorem dX12_years_51 : decode cX12_years 51 = .ok (.istore 4, 2) := by decide +kernel
theorem dX12_years_53 : decode cX12_years 53 = .ok (.iload 4, 2) := by decide +kernel
theorem dX12_years_55 : decode cX12_years 55 = .ok (.iload_n 2, 1) := by decide +kernel
theorem dX12_years_56 : decode cX12_years 56 = .ok (.if_icmp .ge 13, 3) := by decide +kernel
theorem dX12_years_59 : decode cX12_years 59 = .ok (.aload_n 0, 1) := by decide +kernel
theorem dX12_years_60 : decode cX12_years 60 = .ok (.invokevirtual 413, 3) := by decide +kernel
theorem dX12_years_63 : decode cX12_years 63 = .ok (.iinc 4 1, 3) := by decide +kernel
theorem dX12_years_66 : decode cX12_years 66 = .ok (.goto (-13), 3) := by decide +kernel
theorem dX12_years_69 : decode cX12_years 69 = .ok (.aload_n 0, 1) := by decide +kernel
theorem dX12_years_70 : decode cX12_years 70 = .ok (.sipush 786, 3) := by decide +kernel
theorem dX12_years_73 : decode cX12_years 73 = .ok (.invokevirtual 175, 3) := by decide +kernel
theorem dX12_years_76 : decode cX12_years 76 = .ok (.iload_n 3, 1) := by decide +kernel
theorem dX12_years_77 : decode cX12_years 77 = .ok (.ifCond .ne 23, 3) := by decide +kernel
theorem dX12_years_80 : decode cX12_years 80 = .ok (.aload_n 0, 1) := by decide +kernel
theorem dX12_years_81 : decode cX12_years 81 = .ok (.getfield 10, 3) := by decide +kernel
theorem dX12_years_84 : decode cX12_years 84 = .ok (.sipush 1566, 3) := by decide +kernel
theorem dX12_years_87 : decode cX12_years 87 = .ok (.iaload, 1) := by decide +kernel
theorem dX12_years_88 : decode cX12_years 88 = .ok (.aload_n 0, 1) := by decide +kernel
theorem dX12_years_89 : decode cX12_years 89 = .ok (.getfield 10, 3) := by decide +kernel
theorem dX12_years_92 : decode cX12_years 92 = .ok (.sipush 780, 3) := by decide +kernel
theorem dX12_years_95 : decode cX12_years 95 = .ok (.iaload, 1) := by decide +kernel
theorem dX12_years_96 : decode cX12_years 96 = .ok (.isub, 1) := by decide +kernel
theorem dX12_years_97 : decode cX12_years 97 = .ok (.goto 26, 3) := by decide +kernel
theorem dX12_years_100 : decode cX12_years 100 = .ok (.iload_n 3, 1) := by decide +kernel
theorem dX12_years_101 : decode cX12_years 101 = .ok (.iconst 1, 1) := by decide +kernel
theorem dX12_years_102 : decode cX12_years 102 = .ok (.if_icmp .ne 10, 3) := by decide +kernel
theorem dX12_years_105 : decode cX12_years 105 = .ok (.aload_n 0, 1) := by decide +kernel
theorem dX12_years_106 : decode cX12_years 106 = .ok (.getfield 407, 3) := by decide +kernel
theorem dX12_years_109 : decode cX12_years 109 = .ok (.goto 14, 3) := by decide +kernel
theorem dX12_years_112 : decode cX12_years 112 = .ok (.aload_n 0, 1) := by decide +kernel
theorem dX12_years_113 : decode cX12_years 113 = .ok (.aload_n 0, 1) := by decide +kernel
theorem dX12_years_114 : decode cX12_years 114 = .ok (.getfield 39, 3) := by decide +kernel
theorem dX12_years_117 : decode cX12_years 117 = .ok (.invokevirtual 111, 3) := by decide +kernel
theorem dX12_years_120 : decode cX12_years 120 = .ok (.invokestatic 379, 3) := by decide +kernel
theorem dX12_years_123 : decode cX12_years 123 = .ok (.ireturn, 1) := by decide +kernel
set_option maxRecDepth 20000 in
theorem ggX12_image_X12_copies : GoodIn wsX12_image wsX12_copies := goodIn_r _ [18, 19, 20, 21, 22, 23, 24, 25, 26, 27, 28, 29, 30, 31, 32, 33, 34, 35, 36, 37, 38, 39, 40, 41, 42, 43, 44, 45, 46, 47, 48, 49, 50, 51, 52, 53, 54, 55, 56, 57, 58, 59, 60, 61, 62, 63, 64, 65, 66, 67, 68, 69, 70] (by decide +kernel) (by decide +kernel)
set_option maxRecDepth 20000 in
theorem gX12_image_X12_copies : GoodIn wsX12_image (wsV RX12 224 RX12 yX12_copies wsX12_copies) := goodIn_app (goodIn_of _ (by decide +kernel)) ggX12_image_X12_copies
theorem dX12_image_0 : decode cX12_image 0 = .ok (.aload_n 0, 1) := by decide +kernel
theorem dX12_image_1 : decode cX12_image 1 = .ok (.iconst 0, 1) := by decide +kernel
theorem dX12_image_2 : decode cX12_image 2 = .ok (.putfield 63, 3) := by decide +kernel
theorem dX12_image_5 : decode cX12_image 5 = .ok (.aload_n 0, 1) := by decide +kernel
theorem dX12_image_6 : decode cX12_image 6 = .ok (.iconst 0, 1) := by decide +kernel
theorem dX12_image_7 : decode cX12_image 7 = .ok (.ldc_w 416, 3) := by decide +kernel
theorem dX12_image_10 : decode cX12_image 10 = .ok (.sipush 786, 3) := by decide +kernel
theorem dX12_image_13 : decode cX12_image 13 = .ok (.invokevirtual 224, 3) := by decide +kernel
theorem dX12_image_16 : decode cX12_image 16 = .ok (.aload_n 0, 1) := by decide +kernel
theorem dX12_image_17 : decode cX12_image 17 = .ok (.sipush 2358, 3) := by decide +kernel
theorem dX12_image_20 : decode cX12_image 20 = .ok (.ldc_w 417, 3) := by decide +kernel
theorem dX12_image_23 : decode cX12_image 23 = .ok (.sipush 31440, 3) := by decide +kernel
theorem dX12_image_26 : decode cX12_image 26 = .ok (.invokevirtual 224, 3) := by decide +kernel
theorem dX12_image_29 : decode cX12_image 29 = .ok (.aload_n 0, 1) := by decide +kernel
theorem dX12_image_30 : decode cX12_image 30 = .ok (.aload_n 0, 1) := by decide +kernel
theorem dX12_image_31 : decode cX12_image 31 = .ok (.getfield 336, 3) := by decide +kernel
theorem dX12_image_34 : decode cX12_image 34 = .ok (.putfield 418, 3) := by decide +kernel
theorem dX12_image_37 : decode cX12_image 37 = .ok (.aload_n 0, 1) := by decide +kernel
theorem dX12_image_38 : decode cX12_image 38 = .ok (.aload_n 0, 1) := by decide +kernel
theorem dX12_image_39 : decode cX12_image 39 = .ok (.getfield 333, 3) := by decide +kernel
theorem dX12_image_42 : decode cX12_image 42 = .ok (.putfield 421, 3) := by decide +kernel
theorem dX12_image_45 : decode cX12_image 45 = .ok (.aload_n 0, 1) := by decide +kernel
theorem dX12_image_46 : decode cX12_image 46 = .ok (.aload_n 0, 1) := by decide +kernel
theorem dX12_image_47 : decode cX12_image 47 = .ok (.getfield 330, 3) := by decide +kernel
theorem dX12_image_50 : decode cX12_image 50 = .ok (.putfield 424, 3) := by decide +kernel
theorem dX12_image_53 : decode cX12_image 53 = .ok (.iconst 0, 1) := by decide +kernel
theorem dX12_image_54 : decode cX12_image 54 = .ok (.istore_n 1, 1) := by decide +kernel
theorem dX12_image_55 : decode cX12_image 55 = .ok (.iload_n 1, 1) := by decide +kernel
theorem dX12_image_56 : decode cX12_image 56 = .ok (.bipush 8, 2) := by decide +kernel
theorem dX12_image_58 : decode cX12_image 58 = .ok (.if_icmp .ge 39, 3) := by decide +kernel
theorem dX12_image_61 : decode cX12_image 61 = .ok (.aload_n 0, 1) := by decide +kernel
theorem dX12_image_62 : decode cX12_image 62 = .ok (.getfield 14, 3) := by decide +kernel
theorem dX12_image_65 : decode cX12_image 65 = .ok (.bipush 8, 2) := by decide +kernel
theorem dX12_image_67 : decode cX12_image 67 = .ok (.iload_n 1, 1) := by decide +kernel
theorem dX12_image_68 : decode cX12_image 68 = .ok (.iadd, 1) := by decide +kernel
theorem dX12_image_69 : decode cX12_image 69 = .ok (.aload_n 0, 1) := by decide +kernel
theorem dX12_image_70 : decode cX12_image 70 = .ok (.getfield 14, 3) := by decide +kernel
theorem dX12_image_73 : decode cX12_image 73 = .ok (.iload_n 1, 1) := by decide +kernel
theorem dX12_image_74 : decode cX12_image 74 = .ok (.iaload, 1) := by decide +kernel
theorem dX12_image_75 : decode cX12_image 75 = .ok (.iastore, 1) := by decide +kernel
theorem dX12_image_76 : decode cX12_image 76 = .ok (.aload_n 0, 1) := by decide +kernel
theorem dX12_image_77 : decode cX12_image 77 = .ok (.getfield 17, 3) := by decide +kernel
theorem dX12_image_80 : decode cX12_image 80 = .ok (.bipush 8, 2) := by decide +kernel
theorem dX12_image_82 : decode cX12_image 82 = .ok (.iload_n 1, 1) := by decide +kernel
theorem dX12_image_83 : decode cX12_image 83 = .ok (.iadd, 1) := by decide +kernel
theorem dX12_image_84 : decode cX12_image 84 = .ok (.aload_n 0, 1) := by decide +kernel
theorem dX12_image_85 : decode cX12_image 85 = .ok (.getfield 17, 3) := by decide +kernel
theorem dX12_image_88 : decode cX12_image 88 = .ok (.iload_n 1, 1) := by decide +kernel
theorem dX12_image_89 : decode cX12_image 89 = .ok (.iaload, 1) := by decide +kernel
theorem dX12_image_90 : decode cX12_image 90 = .ok (.iastore, 1) := by decide +kernel
theorem dX12_image_91 : decode cX12_image 91 = .ok (.iinc 1 1, 3) := by decide +kernel
theorem dX12_image_94 : decode cX12_image 94 = .ok (.goto (-39), 3) := by decide +kernel
theorem dX12_image_97 : decode cX12_image 97 = .ok (.iconst 0, 1) := by decide +kernel
theorem dX12_image_98 : decode cX12_image 98 = .ok (.istore_n 1, 1) := by decide +kernel
theorem dX12_image_99 : decode cX12_image 99 = .ok (.iload_n 1, 1) := by decide +kernel
theorem dX12_image_100 : decode cX12_image 100 = .ok (.iconst 3, 1) := by decide +kernel
theorem dX12_image_101 : decode cX12_image 101 = .ok (.if_icmp .ge 23, 3) := by decide +kernel
theorem dX12_image_104 : decode cX12_image 104 = .ok (.aload_n 0, 1) := by decide +kernel
theorem dX12_image_105 : decode cX12_image 105 = .ok (.getfield 20, 3) := by decide +kernel
theorem dX12_image_108 : decode cX12_image 108 = .ok (.iconst 3, 1) := by decide +kernel
theorem dX12_image_109 : decode cX12_image 109 = .ok (.iload_n 1, 1) := by decide +kernel
theorem dX12_image_110 : decode cX12_image 110 = .ok (.iadd, 1) := by decide +kernel
theorem dX12_image_111 : decode cX12_image 111 = .ok (.aload_n 0, 1) := by decide +kernel
theorem dX12_image_112 : decode cX12_image 112 = .ok (.getfield 20, 3) := by decide +kernel
theorem dX12_image_115 : decode cX12_image 115 = .ok (.iload_n 1, 1) := by decide +kernel
theorem dX12_image_116 : decode cX12_image 116 = .ok (.iaload, 1) := by decide +kernel
theorem dX12_image_117 : decode cX12_image 117 = .ok (.iastore, 1) := by decide +kernel
theorem dX12_image_118 : decode cX12_image 118 = .ok (.iinc 1 1, 3) := by decide +kernel
theorem dX12_image_121 : decode cX12_image 121 = .ok (.goto (-22), 3) := by decide +kernel
theorem dX12_image_124 : decode cX12_image 124 = .ok (.aload_n 0, 1) := by decide +kernel
theorem dX12_image_125 : decode cX12_image 125 = .ok (.iconst 1, 1) := by decide +kernel
theorem dX12_image_126 : decode cX12_image 126 = .ok (.putfield 327, 3) := by decide +kernel
theorem dX12_image_129 : decode cX12_image 129 = .ok (.return_, 1) := by decide +kernel
set_option maxRecDepth 20000 in
theorem ggX12_restore_X12_copies : GoodIn wsX12_restore wsX12_copies := goodIn_r _ [18, 19, 20, 21, 22, 23, 24, 25, 26, 27, 28, 29, 30, 31, 32, 33, 34, 35, 36, 37, 38, 39, 40, 41, 42, 43, 44, 45, 46, 47, 48, 49, 50, 51, 52, 53, 54, 55, 56, 57, 58, 59, 60, 61, 62, 63, 64, 65, 66, 67, 68, 69, 70] (by decide +kernel) (by decide +kernel)
set_option maxRecDepth 20000 in
theorem gX12_restore_X12_copies : GoodIn wsX12_restore (wsV RX12 224 RX12 yX12_copies wsX12_copies) := goodIn_app (goodIn_of _ (by decide +kernel)) ggX12_restore_X12_copies
theorem dX12_restore_0 : decode cX12_restore 0 = .ok (.aload_n 0, 1) := by decide +kernel
theorem dX12_restore_1 : decode cX12_restore 1 = .ok (.iconst 0, 1) := by decide +kernel
theorem dX12_restore_2 : decode cX12_restore 2 = .ok (.putfield 63, 3) := by decide +kernel
theorem dX12_restore_5 : decode cX12_restore 5 = .ok (.aload_n 0, 1) := by decide +kernel
theorem dX12_restore_6 : decode cX12_restore 6 = .ok (.getfield 327, 3) := by decide +kernel
theorem dX12_restore_9 : decode cX12_restore 9 = .ok (.ifCond .ne 5, 3) := by decide +kernel
theorem dX12_restore_12 : decode cX12_restore 12 = .ok (.iconst 0, 1) := by decide +kernel
theorem dX12_restore_13 : decode cX12_restore 13 = .ok (.ireturn, 1) := by decide +kernel
theorem dX12_restore_14 : decode cX12_restore 14 = .ok (.aload_n 0, 1) := by decide +kernel
theorem dX12_restore_15 : decode cX12_restore 15 = .ok (.ldc_w 416, 3) := by decide +kernel
theorem dX12_restore_18 : decode cX12_restore 18 = .ok (.iconst 0, 1) := by decide +kernel
theorem dX12_restore_19 : decode cX12_restore 19 = .ok (.sipush 786, 3) := by decide +kernel
theorem dX12_restore_22 : decode cX12_restore 22 = .ok (.invokevirtual 224, 3) := by decide +kernel
theorem dX12_restore_25 : decode cX12_restore 25 = .ok (.aload_n 0, 1) := by decide +kernel
theorem dX12_restore_26 : decode cX12_restore 26 = .ok (.ldc_w 417, 3) := by decide +kernel
theorem dX12_restore_29 : decode cX12_restore 29 = .ok (.sipush 2358, 3) := by decide +kernel
theorem dX12_restore_32 : decode cX12_restore 32 = .ok (.sipush 31440, 3) := by decide +kernel
theorem dX12_restore_35 : decode cX12_restore 35 = .ok (.invokevirtual 224, 3) := by decide +kernel
theorem dX12_restore_38 : decode cX12_restore 38 = .ok (.aload_n 0, 1) := by decide +kernel
theorem dX12_restore_39 : decode cX12_restore 39 = .ok (.aload_n 0, 1) := by decide +kernel
theorem dX12_restore_40 : decode cX12_restore 40 = .ok (.getfield 418, 3) := by decide +kernel
theorem dX12_restore_43 : decode cX12_restore 43 = .ok (.putfield 336, 3) := by decide +kernel
theorem dX12_restore_46 : decode cX12_restore 46 = .ok (.aload_n 0, 1) := by decide +kernel
theorem dX12_restore_47 : decode cX12_restore 47 = .ok (.aload_n 0, 1) := by decide +kernel
theorem dX12_restore_48 : decode cX12_restore 48 = .ok (.getfield 421, 3) := by decide +kernel
theorem dX12_restore_51 : decode cX12_restore 51 = .ok (.putfield 333, 3) := by decide +kernel
theorem dX12_restore_54 : decode cX12_restore 54 = .ok (.aload_n 0, 1) := by decide +kernel
theorem dX12_restore_55 : decode cX12_restore 55 = .ok (.aload_n 0, 1) := by decide +kernel
theorem dX12_restore_56 : decode cX12_restore 56 = .ok (.getfield 424, 3) := by decide +kernel
theorem dX12_restore_59 : decode cX12_restore 59 = .ok (.putfield 330, 3) := by decide +kernel
theorem dX12_restore_62 : decode cX12_restore 62 = .ok (.iconst 0, 1) := by decide +kernel
theorem dX12_restore_63 : decode cX12_restore 63 = .ok (.istore_n 1, 1) := by decide +kernel
theorem dX12_restore_64 : decode cX12_restore 64 = .ok (.iload_n 1, 1) := by decide +kernel
theorem dX12_restore_65 : decode cX12_restore 65 = .ok (.bipush 8, 2) := by decide +kernel
theorem dX12_restore_67 : decode cX12_restore 67 = .ok (.if_icmp .ge 39, 3) := by decide +kernel
theorem dX12_restore_70 : decode cX12_restore 70 = .ok (.aload_n 0, 1) := by decide +kernel
theorem dX12_restore_71 : decode cX12_restore 71 = .ok (.getfield 14, 3) := by decide +kernel
theorem dX12_restore_74 : decode cX12_restore 74 = .ok (.iload_n 1, 1) := by decide +kernel
theorem dX12_restore_75 : decode cX12_restore 75 = .ok (.aload_n 0, 1) := by decide +kernel
theorem dX12_restore_76 : decode cX12_restore 76 = .ok (.getfield 14, 3) := by decide +kernel
theorem dX12_restore_79 : decode cX12_restore 79 = .ok (.bipush 8, 2) := by decide +kernel
theorem dX12_restore_81 : decode cX12_restore 81 = .ok (.iload_n 1, 1) := by decide +kernel
theorem dX12_restore_82 : decode cX12_restore 82 = .ok (.iadd, 1) := by decide +kernel
theorem dX12_restore_83 : decode cX12_restore 83 = .ok (.iaload, 1) := by decide +kernel
theorem dX12_restore_84 : decode cX12_restore 84 = .ok (.iastore, 1) := by decide +kernel
theorem dX12_restore_85 : decode cX12_restore 85 = .ok (.aload_n 0, 1) := by decide +kernel
theorem dX12_restore_86 : decode cX12_restore 86 = .ok (.getfield 17, 3) := by decide +kernel
theorem dX12_restore_89 : decode cX12_restore 89 = .ok (.iload_n 1, 1) := by decide +kernel
theorem dX12_restore_90 : decode cX12_restore 90 = .ok (.aload_n 0, 1) := by decide +kernel
theorem dX12_restore_91 : decode cX12_restore 91 = .ok (.getfield 17, 3) := by decide +kernel
theorem dX12_restore_94 : decode cX12_restore 94 = .ok (.bipush 8, 2) := by decide +kernel
theorem dX12_restore_96 : decode cX12_restore 96 = .ok (.iload_n 1, 1) := by decide +kernel
theorem dX12_restore_97 : decode cX12_restore 97 = .ok (.iadd, 1) := by decide +kernel
theorem dX12_restore_98 : decode cX12_restore 98 = .ok (.iaload, 1) := by decide +kernel
theorem dX12_restore_99 : decode cX12_restore 99 = .ok (.iastore, 1) := by decide +kernel
theorem dX12_restore_100 : decode cX12_restore 100 = .ok (.iinc 1 1, 3) := by decide +kernel
theorem dX12_restore_103 : decode cX12_restore 103 = .ok (.goto (-39), 3) := by decide +kernel
theorem dX12_restore_106 : decode cX12_restore 106 = .ok (.iconst 0, 1) := by decide +kernel
theorem dX12_restore_107 : decode cX12_restore 107 = .ok (.istore_n 1, 1) := by decide +kernel
theorem dX12_restore_108 : decode cX12_restore 108 = .ok (.iload_n 1, 1) := by decide +kernel
theorem dX12_restore_109 : decode cX12_restore 109 = .ok (.iconst 3, 1) := by decide +kernel
theorem dX12_restore_110 : decode cX12_restore 110 = .ok (.if_icmp .ge 23, 3) := by decide +kernel
theorem dX12_restore_113 : decode cX12_restore 113 = .ok (.aload_n 0, 1) := by decide +kernel
theorem dX12_restore_114 : decode cX12_restore 114 = .ok (.getfield 20, 3) := by decide +kernel
theorem dX12_restore_117 : decode cX12_restore 117 = .ok (.iload_n 1, 1) := by decide +kernel
theorem dX12_restore_118 : decode cX12_restore 118 = .ok (.aload_n 0, 1) := by decide +kernel
theorem dX12_restore_119 : decode cX12_restore 119 = .ok (.getfield 20, 3) := by decide +kernel
theorem dX12_restore_122 : decode cX12_restore 122 = .ok (.iconst 3, 1) := by decide +kernel
theorem dX12_restore_123 : decode cX12_restore 123 = .ok (.iload_n 1, 1) := by decide +kernel
theorem dX12_restore_124 : decode cX12_restore 124 = .ok (.iadd, 1) := by decide +kernel
theorem dX12_restore_125 : decode cX12_restore 125 = .ok (.iaload, 1) := by decide +kernel
theorem dX12_restore_126 : decode cX12_restore 126 = .ok (.iastore, 1) := by decide +kernel
theorem dX12_restore_127 : decode cX12_restore 127 = .ok (.iinc 1 1, 3) := by decide +kernel
theorem dX12_restore_130 : decode cX12_restore 130 = .ok (.goto (-22), 3) := by decide +kernel
theorem dX12_restore_133 : decode cX12_restore 133 = .ok (.iconst 1, 1) := by decide +kernel
theorem dX12_restore_134 : decode cX12_restore 134 = .ok (.ireturn, 1) := by decide +kernel
theorem dJ6_numberOfTrailingZeros_0f7a4_0 : decode cJ6_numberOfTrailingZeros_0f7a4 0 = .ok (.iload_n 0, 1) := by decide +kernel
theorem dJ6_numberOfTrailingZeros_0f7a4_1 : decode cJ6_numberOfTrailingZeros_0f7a4 1 = .ok (.iconst (-1), 1) := by decide +kernel
theorem dJ6_numberOfTrailingZeros_0f7a4_2 : decode cJ6_numberOfTrailingZeros_0f7a4 2 = .ok (.ixor, 1) := by decide +kernel
theorem dJ6_numberOfTrailingZeros_0f7a4_3 : decode cJ6_numberOfTrailingZeros_0f7a4 3 = .ok (.iload_n 0, 1) := by decide +kernel
theorem dJ6_numberOfTrailingZeros_0f7a4_4 : decode cJ6_numberOfTrailingZeros_0f7a4 4 = .ok (.iconst 1, 1) := by decide +kernel
theorem dJ6_numberOfTrailingZeros_0f7a4_5 : decode cJ6_numberOfTrailingZeros_0f7a4 5 = .ok (.isub, 1) := by decide +kernel
theorem dJ6_numberOfTrailingZeros_0f7a4_6 : decode cJ6_numberOfTrailingZeros_0f7a4 6 = .ok (.iand, 1) := by decide +kernel
theorem dJ6_numberOfTrailingZeros_0f7a4_7 : decode cJ6_numberOfTrailingZeros_0f7a4 7 = .ok (.istore_n 0, 1) := by decide +kernel
theorem dJ6_numberOfTrailingZeros_0f7a4_8 : decode cJ6_numberOfTrailingZeros_0f7a4 8 = .ok (.iload_n 0, 1) := by decide +kernel
theorem dJ6_numberOfTrailingZeros_0f7a4_9 : decode cJ6_numberOfTrailingZeros_0f7a4 9 = .ok (.ifCond .gt 8, 3) := by decide +kernel
theorem dJ6_numberOfTrailingZeros_0f7a4_12 : decode cJ6_numberOfTrailingZeros_0f7a4 12 = .ok (.iload_n 0, 1) := by decide +kernel
theorem dJ6_numberOfTrailingZeros_0f7a4_13 : decode cJ6_numberOfTrailingZeros_0f7a4 13 = .ok (.bipush 32, 2) := by decide +kernel
theorem dJ6_numberOfTrailingZeros_0f7a4_15 : decode cJ6_numberOfTrailingZeros_0f7a4 15 = .ok (.iand, 1) := by decide +kernel
theorem dJ6_numberOfTrailingZeros_0f7a4_16 : decode cJ6_numberOfTrailingZeros_0f7a4 16 = .ok (.ireturn, 1) := by decide +kernel
theorem dJ6_numberOfTrailingZeros_0f7a4_17 : decode cJ6_numberOfTrailingZeros_0f7a4 17 = .ok (.iconst 1, 1) := by decide +kernel
theorem dJ6_numberOfTrailingZeros_0f7a4_18 : decode cJ6_numberOfTrailingZeros_0f7a4 18 = .ok (.istore_n 1, 1) := by decide +kernel
theorem dJ6_numberOfTrailingZeros_0f7a4_19 : decode cJ6_numberOfTrailingZeros_0f7a4 19 = .ok (.iload_n 0, 1) := by decide +kernel
theorem dJ6_numberOfTrailingZeros_0f7a4_20 : decode cJ6_numberOfTrailingZeros_0f7a4 20 = .ok (.ldc_w 264, 3) := by decide +kernel
theorem dJ6_numberOfTrailingZeros_0f7a4_23 : decode cJ6_numberOfTrailingZeros_0f7a4 23 = .ok (.if_icmp .le 11, 3) := by decide +kernel
theorem dJ6_numberOfTrailingZeros_0f7a4_26 : decode cJ6_numberOfTrailingZeros_0f7a4 26 = .ok (.iinc 1 16, 3) := by decide +kernel
theorem dJ6_numberOfTrailingZeros_0f7a4_29 : decode cJ6_numberOfTrailingZeros_0f7a4 29 = .ok (.iload_n 0, 1) := by decide +kernel
theorem dJ6_numberOfTrailingZeros_0f7a4_30 : decode cJ6_numberOfTrailingZeros_0f7a4 30 = .ok (.bipush 16, 2) := by decide +kernel
theorem dJ6_numberOfTrailingZeros_0f7a4_32 : decode cJ6_numberOfTrailingZeros_0f7a4 32 = .ok (.iushr, 1) := by decide +kernel
theorem dJ6_numberOfTrailingZeros_0f7a4_33 : decode cJ6_numberOfTrailingZeros_0f7a4 33 = .ok (.istore_n 0, 1) := by decide +kernel
theorem dJ6_numberOfTrailingZeros_0f7a4_34 : decode cJ6_numberOfTrailingZeros_0f7a4 34 = .ok (.iload_n 0, 1) := by decide +kernel
theorem dJ6_numberOfTrailingZeros_0f7a4_35 : decode cJ6_numberOfTrailingZeros_0f7a4 35 = .ok (.sipush 256, 3) := by decide +kernel
theorem dJ6_numberOfTrailingZeros_0f7a4_38 : decode cJ6_numberOfTrailingZeros_0f7a4 38 = .ok (.if_icmp .le 11, 3) := by decide +kernel
theorem dJ6_numberOfTrailingZeros_0f7a4_41 : decode cJ6_numberOfTrailingZeros_0f7a4 41 = .ok (.iinc 1 8, 3) := by decide +kernel
theorem dJ6_numberOfTrailingZeros_0f7a4_44 : decode cJ6_numberOfTrailingZeros_0f7a4 44 = .ok (.iload_n 0, 1) := by decide +kernel
theorem dJ6_numberOfTrailingZeros_0f7a4_45 : decode cJ6_numberOfTrailingZeros_0f7a4 45 = .ok (.bipush 8, 2) := by decide +kernel
theorem dJ6_numberOfTrailingZeros_0f7a4_47 : decode cJ6_numberOfTrailingZeros_0f7a4 47 = .ok (.iushr, 1) := by decide +kernel
theorem dJ6_numberOfTrailingZeros_0f7a4_48 : decode cJ6_numberOfTrailingZeros_0f7a4 48 = .ok (.istore_n 0, 1) := by decide +kernel
theorem dJ6_numberOfTrailingZeros_0f7a4_49 : decode cJ6_numberOfTrailingZeros_0f7a4 49 = .ok (.iload_n 0, 1) := by decide +kernel
theorem dJ6_numberOfTrailingZeros_0f7a4_50 : decode cJ6_numberOfTrailingZeros_0f7a4 50 = .ok (.bipush 16, 2) := by decide +kernel
theorem dJ6_numberOfTrailingZeros_0f7a4_52 : decode cJ6_numberOfTrailingZeros_0f7a4 52 = .ok (.if_icmp .le 10, 3) := by decide +kernel
theorem dJ6_numberOfTrailingZeros_0f7a4_55 : decode cJ6_numberOfTrailingZeros_0f7a4 55 = .ok (.iinc 1 4, 3) := by decide +kernel
theorem dJ6_numberOfTrailingZeros_0f7a4_58 : decode cJ6_numberOfTrailingZeros_0f7a4 58 = .ok (.iload_n 0, 1) := by decide +kernel
theorem dJ6_numberOfTrailingZeros_0f7a4_59 : decode cJ6_numberOfTrailingZeros_0f7a4 59 = .ok (.iconst 4, 1) := by decide +kernel
theorem dJ6_numberOfTrailingZeros_0f7a4_60 : decode cJ6_numberOfTrailingZeros_0f7a4 60 = .ok (.iushr, 1) := by decide +kernel
theorem dJ6_numberOfTrailingZeros_0f7a4_61 : decode cJ6_numberOfTrailingZeros_0f7a4 61 = .ok (.istore_n 0, 1) := by decide +kernel
theorem dJ6_numberOfTrailingZeros_0f7a4_62 : decode cJ6_numberOfTrailingZeros_0f7a4 62 = .ok (.iload_n 0, 1) := by decide +kernel
theorem dJ6_numberOfTrailingZeros_0f7a4_63 : decode cJ6_numberOfTrailingZeros_0f7a4 63 = .ok (.iconst 4, 1) := by decide +kernel
theorem dJ6_numberOfTrailingZeros_0f7a4_64 : decode cJ6_numberOfTrailingZeros_0f7a4 64 = .ok (.if_icmp .le 10, 3) := by decide +kernel
theorem dJ6_numberOfTrailingZeros_0f7a4_67 : decode cJ6_numberOfTrailingZeros_0f7a4 67 = .ok (.iinc 1 2, 3) := by decide +kernel
theorem dJ6_numberOfTrailingZeros_0f7a4_70 : decode cJ6_numberOfTrailingZeros_0f7a4 70 = .ok (.iload_n 0, 1) := by decide +kernel
theorem dJ6_numberOfTrailingZeros_0f7a4_71 : decode cJ6_numberOfTrailingZeros_0f7a4 71 = .ok (.iconst 2, 1) := by decide +kernel
theorem dJ6_numberOfTrailingZeros_0f7a4_72 : decode cJ6_numberOfTrailingZeros_0f7a4 72 = .ok (.iushr, 1) := by decide +kernel
theorem dJ6_numberOfTrailingZeros_0f7a4_73 : decode cJ6_numberOfTrailingZeros_0f7a4 73 = .ok (.istore_n 0, 1) := by decide +kernel
theorem dJ6_numberOfTrailingZeros_0f7a4_74 : decode cJ6_numberOfTrailingZeros_0f7a4 74 = .ok (.iload_n 1, 1) := by decide +kernel
theorem dJ6_numberOfTrailingZeros_0f7a4_75 : decode cJ6_numberOfTrailingZeros_0f7a4 75 = .ok (.iload_n 0, 1) := by decide +kernel
theorem dJ6_numberOfTrailingZeros_0f7a4_76 : decode cJ6_numberOfTrailingZeros_0f7a4 76 = .ok (.iconst 1, 1) := by decide +kernel
theorem dJ6_numberOfTrailingZeros_0f7a4_77 : decode cJ6_numberOfTrailingZeros_0f7a4 77 = .ok (.iushr, 1) := by decide +kernel
theorem dJ6_numberOfTrailingZeros_0f7a4_78 : decode cJ6_numberOfTrailingZeros_0f7a4 78 = .ok (.iadd, 1) := by decide +kernel
theorem dJ6_numberOfTrailingZeros_0f7a4_79 : decode cJ6_numberOfTrailingZeros_0f7a4 79 = .ok (.ireturn, 1) := by decide +kernel
theorem dJ6_bitCount_0f7a4_0 : decode cJ6_bitCount_0f7a4 0 = .ok (.iload_n 0, 1) := by decide +kernel
theorem dJ6_bitCount_0f7a4_1 : decode cJ6_bitCount_0f7a4 1 = .ok (.iload_n 0, 1) := by decide +kernel
theorem dJ6_bitCount_0f7a4_2 : decode cJ6_bitCount_0f7a4 2 = .ok (.iconst 1, 1) := by decide +kernel
theorem dJ6_bitCount_0f7a4_3 : decode cJ6_bitCount_0f7a4 3 = .ok (.iushr, 1) := by decide +kernel
theorem dJ6_bitCount_0f7a4_4 : decode cJ6_bitCount_0f7a4 4 = .ok (.ldc_w 265, 3) := by decide +kernel
theorem dJ6_bitCount_0f7a4_7 : decode cJ6_bitCount_0f7a4 7 = .ok (.iand, 1) := by decide +kernel
theorem dJ6_bitCount_0f7a4_8 : decode cJ6_bitCount_0f7a4 8 = .ok (.isub, 1) := by decide +kernel
theorem dJ6_bitCount_0f7a4_9 : decode cJ6_bitCount_0f7a4 9 = .ok (.istore_n 0, 1) := by decide +kernel
theorem dJ6_bitCount_0f7a4_10 : decode cJ6_bitCount_0f7a4 10 = .ok (.iload_n 0, 1) := by decide +kernel
theorem dJ6_bitCount_0f7a4_11 : decode cJ6_bitCount_0f7a4 11 = .ok (.ldc_w 266, 3) := by decide +kernel
theorem dJ6_bitCount_0f7a4_14 : decode cJ6_bitCount_0f7a4 14 = .ok (.iand, 1) := by decide +kernel
theorem dJ6_bitCount_0f7a4_15 : decode cJ6_bitCount_0f7a4 15 = .ok (.iload_n 0, 1) := by decide +kernel
theorem dJ6_bitCount_0f7a4_16 : decode cJ6_bitCount_0f7a4 16 = .ok (.iconst 2, 1) := by decide +kernel
theorem dJ6_bitCount_0f7a4_17 : decode cJ6_bitCount_0f7a4 17 = .ok (.iushr, 1) := by decide +kernel
theorem dJ6_bitCount_0f7a4_18 : decode cJ6_bitCount_0f7a4 18 = .ok (.ldc_w 266, 3) := by decide +kernel
theorem dJ6_bitCount_0f7a4_21 : decode cJ6_bitCount_0f7a4 21 = .ok (.iand, 1) := by decide +kernel
theorem dJ6_bitCount_0f7a4_22 : decode cJ6_bitCount_0f7a4 22 = .ok (.iadd, 1) := by decide +kernel
theorem dJ6_bitCount_0f7a4_23 : decode cJ6_bitCount_0f7a4 23 = .ok (.istore_n 0, 1) := by decide +kernel
theorem dJ6_bitCount_0f7a4_24 : decode cJ6_bitCount_0f7a4 24 = .ok (.iload_n 0, 1) := by decide +kernel
theorem dJ6_bitCount_0f7a4_25 : decode cJ6_bitCount_0f7a4 25 = .ok (.iload_n 0, 1) := by decide +kernel
theorem dJ6_bitCount_0f7a4_26 : decode cJ6_bitCount_0f7a4 26 = .ok (.iconst 4, 1) := by decide +kernel
theorem dJ6_bitCount_0f7a4_27 : decode cJ6_bitCount_0f7a4 27 = .ok (.iushr, 1) := by decide +kernel
theorem dJ6_bitCount_0f7a4_28 : decode cJ6_bitCount_0f7a4 28 = .ok (.iadd, 1) := by decide +kernel
theorem dJ6_bitCount_0f7a4_29 : decode cJ6_bitCount_0f7a4 29 = .ok (.ldc_w 267, 3) := by decide +kernel
theorem dJ6_bitCount_0f7a4_32 : decode cJ6_bitCount_0f7a4 32 = .ok (.iand, 1) := by decide +kernel
theorem dJ6_bitCount_0f7a4_33 : decode cJ6_bitCount_0f7a4 33 = .ok (.istore_n 0, 1) := by decide +kernel
theorem dJ6_bitCount_0f7a4_34 : decode cJ6_bitCount_0f7a4 34 = .ok (.iload_n 0, 1) := by decide +kernel
theorem dJ6_bitCount_0f7a4_35 : decode cJ6_bitCount_0f7a4 35 = .ok (.iload_n 0, 1) := by decide +kernel
theorem dJ6_bitCount_0f7a4_36 : decode cJ6_bitCount_0f7a4 36 = .ok (.bipush 8, 2) := by decide +kernel
theorem dJ6_bitCount_0f7a4_38 : decode cJ6_bitCount_0f7a4 38 = .ok (.iushr, 1) := by decide +kernel
theorem dJ6_bitCount_0f7a4_39 : decode cJ6_bitCount_0f7a4 39 = .ok (.iadd, 1) := by decide +kernel
theorem dJ6_bitCount_0f7a4_40 : decode cJ6_bitCount_0f7a4 40 = .ok (.istore_n 0, 1) := by decide +kernel
theorem dJ6_bitCount_0f7a4_41 : decode cJ6_bitCount_0f7a4 41 = .ok (.iload_n 0, 1) := by decide +kernel
theorem dJ6_bitCount_0f7a4_42 : decode cJ6_bitCount_0f7a4 42 = .ok (.iload_n 0, 1) := by decide +kernel
theorem dJ6_bitCount_0f7a4_43 : decode cJ6_bitCount_0f7a4 43 = .ok (.bipush 16, 2) := by decide +kernel
theorem dJ6_bitCount_0f7a4_45 : decode cJ6_bitCount_0f7a4 45 = .ok (.iushr, 1) := by decide +kernel
theorem dJ6_bitCount_0f7a4_46 : decode cJ6_bitCount_0f7a4 46 = .ok (.iadd, 1) := by decide +kernel
theorem dJ6_bitCount_0f7a4_47 : decode cJ6_bitCount_0f7a4 47 = .ok (.istore_n 0, 1) := by decide +kernel
theorem dJ6_bitCount_0f7a4_48 : decode cJ6_bitCount_0f7a4 48 = .ok (.iload_n 0, 1) := by decide +kernel
theorem dJ6_bitCount_0f7a4_49 : decode cJ6_bitCount_0f7a4 49 = .ok (.bipush 63, 2) := by decide +kernel
theorem dJ6_bitCount_0f7a4_51 : decode cJ6_bitCount_0f7a4 51 = .ok (.iand, 1) := by decide +kernel
theorem dJ6_bitCount_0f7a4_52 : decode cJ6_bitCount_0f7a4 52 = .ok (.ireturn, 1) := by decide +kernel
theorem dJ13_bitCount_95d88_0 : decode cJ13_bitCount_95d88 0 = .ok (.lload_n 0, 1) := by decide +kernel
theorem dJ13_bitCount_95d88_1 : decode cJ13_bitCount_95d88 1 = .ok (.lload_n 0, 1) := by decide +kernel
theorem dJ13_bitCount_95d88_2 : decode cJ13_bitCount_95d88 2 = .ok (.iconst 1, 1) := by decide +kernel
theorem dJ13_bitCount_95d88_3 : decode cJ13_bitCount_95d88 3 = .ok (.lushr, 1) := by decide +kernel
theorem dJ13_bitCount_95d88_4 : decode cJ13_bitCount_95d88 4 = .ok (.ldc2_w 314, 3) := by decide +kernel
theorem dJ13_bitCount_95d88_7 : decode cJ13_bitCount_95d88 7 = .ok (.land, 1) := by decide +kernel
theorem dJ13_bitCount_95d88_8 : decode cJ13_bitCount_95d88 8 = .ok (.lsub, 1) := by decide +kernel
theorem dJ13_bitCount_95d88_9 : decode cJ13_bitCount_95d88 9 = .ok (.lstore_n 0, 1) := by decide +kernel
theorem dJ13_bitCount_95d88_10 : decode cJ13_bitCount_95d88 10 = .ok (.lload_n 0, 1) := by decide +kernel
theorem dJ13_bitCount_95d88_11 : decode cJ13_bitCount_95d88 11 = .ok (.ldc2_w 316, 3) := by decide +kernel
theorem dJ13_bitCount_95d88_14 : decode cJ13_bitCount_95d88 14 = .ok (.land, 1) := by decide +kernel
theorem dJ13_bitCount_95d88_15 : decode cJ13_bitCount_95d88 15 = .ok (.lload_n 0, 1) := by decide +kernel
theorem dJ13_bitCount_95d88_16 : decode cJ13_bitCount_95d88 16 = .ok (.iconst 2, 1) := by decide +kernel
theorem dJ13_bitCount_95d88_17 : decode cJ13_bitCount_95d88 17 = .ok (.lushr, 1) := by decide +kernel
theorem dJ13_bitCount_95d88_18 : decode cJ13_bitCount_95d88 18 = .ok (.ldc2_w 316, 3) := by decide +kernel
theorem dJ13_bitCount_95d88_21 : decode cJ13_bitCount_95d88 21 = .ok (.land, 1) := by decide +kernel
theorem dJ13_bitCount_95d88_22 : decode cJ13_bitCount_95d88 22 = .ok (.ladd, 1) := by decide +kernel
theorem dJ13_bitCount_95d88_23 : decode cJ13_bitCount_95d88 23 = .ok (.lstore_n 0, 1) := by decide +kernel
theorem dJ13_bitCount_95d88_24 : decode cJ13_bitCount_95d88 24 = .ok (.lload_n 0, 1) := by decide +kernel
theorem dJ13_bitCount_95d88_25 : decode cJ13_bitCount_95d88 25 = .ok (.lload_n 0, 1) := by decide +kernel
theorem dJ13_bitCount_95d88_26 : decode cJ13_bitCount_95d88 26 = .ok (.iconst 4, 1) := by decide +kernel
theorem dJ13_bitCount_95d88_27 : decode cJ13_bitCount_95d88 27 = .ok (.lushr, 1) := by decide +kernel
theorem dJ13_bitCount_95d88_28 : decode cJ13_bitCount_95d88 28 = .ok (.ladd, 1) := by decide +kernel
theorem dJ13_bitCount_95d88_29 : decode cJ13_bitCount_95d88 29 = .ok (.ldc2_w 318, 3) := by decide +kernel
theorem dJ13_bitCount_95d88_32 : decode cJ13_bitCount_95d88 32 = .ok (.land, 1) := by decide +kernel
theorem dJ13_bitCount_95d88_33 : decode cJ13_bitCount_95d88 33 = .ok (.lstore_n 0, 1) := by decide +kernel
theorem dJ13_bitCount_95d88_34 : decode cJ13_bitCount_95d88 34 = .ok (.lload_n 0, 1) := by decide +kernel
theorem dJ13_bitCount_95d88_35 : decode cJ13_bitCount_95d88 35 = .ok (.lload_n 0, 1) := by decide +kernel
theorem dJ13_bitCount_95d88_36 : decode cJ13_bitCount_95d88 36 = .ok (.bipush 8, 2) := by decide +kernel
theorem dJ13_bitCount_95d88_38 : decode cJ13_bitCount_95d88 38 = .ok (.lushr, 1) := by decide +kernel
theorem dJ13_bitCount_95d88_39 : decode cJ13_bitCount_95d88 39 = .ok (.ladd, 1) := by decide +kernel
theorem dJ13_bitCount_95d88_40 : decode cJ13_bitCount_95d88 40 = .ok (.lstore_n 0, 1) := by decide +kernel
theorem dJ13_bitCount_95d88_41 : decode cJ13_bitCount_95d88 41 = .ok (.lload_n 0, 1) := by decide +kernel
theorem dJ13_bitCount_95d88_42 : decode cJ13_bitCount_95d88 42 = .ok (.lload_n 0, 1) := by decide +kernel
theorem dJ13_bitCount_95d88_43 : decode cJ13_bitCount_95d88 43 = .ok (.bipush 16, 2) := by decide +kernel
theorem dJ13_bitCount_95d88_45 : decode cJ13_bitCount_95d88 45 = .ok (.lushr, 1) := by decide +kernel
theorem dJ13_bitCount_95d88_46 : decode cJ13_bitCount_95d88 46 = .ok (.ladd, 1) := by decide +kernel
theorem dJ13_bitCount_95d88_47 : decode cJ13_bitCount_95d88 47 = .ok (.lstore_n 0, 1) := by decide +kernel
theorem dJ13_bitCount_95d88_48 : decode cJ13_bitCount_95d88 48 = .ok (.lload_n 0, 1) := by decide +kernel
theorem dJ13_bitCount_95d88_49 : decode cJ13_bitCount_95d88 49 = .ok (.lload_n 0, 1) := by decide +kernel
theorem dJ13_bitCount_95d88_50 : decode cJ13_bitCount_95d88 50 = .ok (.bipush 32, 2) := by decide +kernel
theorem dJ13_bitCount_95d88_52 : decode cJ13_bitCount_95d88 52 = .ok (.lushr, 1) := by decide +kernel
theorem dJ13_bitCount_95d88_53 : decode cJ13_bitCount_95d88 53 = .ok (.ladd, 1) := by decide +kernel
theorem dJ13_bitCount_95d88_54 : decode cJ13_bitCount_95d88 54 = .ok (.lstore_n 0, 1) := by decide +kernel
theorem dJ13_bitCount_95d88_55 : decode cJ13_bitCount_95d88 55 = .ok (.lload_n 0, 1) := by decide +kernel
theorem dJ13_bitCount_95d88_56 : decode cJ13_bitCount_95d88 56 = .ok (.l2i, 1) := by decide +kernel
theorem dJ13_bitCount_95d88_57 : decode cJ13_bitCount_95d88 57 = .ok (.bipush 127, 2) := by decide +kernel
theorem dJ13_bitCount_95d88_59 : decode cJ13_bitCount_95d88 59 = .ok (.iand, 1) := by decide +kernel
theorem dJ13_bitCount_95d88_60 : decode cJ13_bitCount_95d88 60 = .ok (.ireturn, 1) := by decide +kernel
theorem dJ9_max_7cf53_0 : decode cJ9_max_7cf53 0 = .ok (.iload_n 0, 1) := by decide +kernel
theorem dJ9_max_7cf53_1 : decode cJ9_max_7cf53 1 = .ok (.iload_n 1, 1) := by decide +kernel
theorem dJ9_max_7cf53_2 : decode cJ9_max_7cf53 2 = .ok (.if_icmp .lt 7, 3) := by decide +kernel
theorem dJ9_max_7cf53_5 : decode cJ9_max_7cf53 5 = .ok (.iload_n 0, 1) := by decide +kernel
theorem dJ9_max_7cf53_6 : decode cJ9_max_7cf53 6 = .ok (.goto 4, 3) := by decide +kernel
theorem dJ9_max_7cf53_9 : decode cJ9_max_7cf53 9 = .ok (.iload_n 1, 1) := by decide +kernel
theorem dJ9_max_7cf53_10 : decode cJ9_max_7cf53 10 = .ok (.ireturn, 1) := by decide +kernel
theorem dJ9_min_7cf53_0 : decode cJ9_min_7cf53 0 = .ok (.iload_n 0, 1) := by decide +kernel
theorem dJ9_min_7cf53_1 : decode cJ9_min_7cf53 1 = .ok (.iload_n 1, 1) := by decide +kernel
theorem dJ9_min_7cf53_2 : decode cJ9_min_7cf53 2 = .ok (.if_icmp .gt 7, 3) := by decide +kernel
theorem dJ9_min_7cf53_5 : decode cJ9_min_7cf53 5 = .ok (.iload_n 0, 1) := by decide +kernel
theorem dJ9_min_7cf53_6 : decode cJ9_min_7cf53 6 = .ok (.goto 4, 3) := by decide +kernel
theorem dJ9_min_7cf53_9 : decode cJ9_min_7cf53 9 = .ok (.iload_n 1, 1) := by decide +kernel
theorem dJ9_min_7cf53_10 : decode cJ9_min_7cf53 10 = .ok (.ireturn, 1) := by decide +kernel
set_option maxRecDepth 20000 in
theorem ggJ0_length_8abf5_J0_coder_7d493 : GoodIn wsJ0_length_8abf5 wsJ0_coder_7d493 := goodIn_r _ [6, 7, 8] (by decide +kernel) (by decide +kernel)
set_option maxRecDepth 20000 in
theorem gJ0_length_8abf5_J0_coder_7d493 : GoodIn wsJ0_length_8abf5 (wsV RJ0 335 RJ0 yJ0_coder_7d493 wsJ0_coder_7d493) := goodIn_app (goodIn_of _ (by decide +kernel)) ggJ0_length_8abf5_J0_coder_7d493
theorem dJ0_length_8abf5_0 : decode cJ0_length_8abf5 0 = .ok (.aload_n 0, 1) := by decide +kernel
theorem dJ0_length_8abf5_1 : decode cJ0_length_8abf5 1 = .ok (.getfield 9, 3) := by decide +kernel
theorem dJ0_length_8abf5_4 : decode cJ0_length_8abf5 4 = .ok (.arraylength, 1) := by decide +kernel
theorem dJ0_length_8abf5_5 : decode cJ0_length_8abf5 5 = .ok (.aload_n 0, 1) := by decide +kernel
theorem dJ0_length_8abf5_6 : decode cJ0_length_8abf5 6 = .ok (.invokevirtual 335, 3) := by decide +kernel
theorem dJ0_length_8abf5_9 : decode cJ0_length_8abf5 9 = .ok (.ishr, 1) := by decide +kernel
theorem dJ0_length_8abf5_10 : decode cJ0_length_8abf5 10 = .ok (.ireturn, 1) := by decide +kernel
set_option maxRecDepth 20000 in
theorem ggJ0_charAt_5068e_J0_isLatin1_aae02 : GoodIn wsJ0_charAt_5068e wsJ0_isLatin1_aae02 := goodIn_r _ [6, 7, 8] (by decide +kernel) (by decide +kernel)
set_option maxRecDepth 20000 in
theorem gJ0_charAt_5068e_J0_isLatin1_aae02 : GoodIn wsJ0_charAt_5068e (wsV RJ0 492 RJ0 yJ0_isLatin1_aae02 wsJ0_isLatin1_aae02) := goodIn_app (goodIn_of _ (by decide +kernel)) ggJ0_charAt_5068e_J0_isLatin1_aae02
set_option maxRecDepth 20000 in
theorem ggJ0_charAt_5068e_J1_charAt_3b067 : GoodIn wsJ0_charAt_5068e wsJ1_charAt_3b067 := goodIn_r _ [12, 13, 14, 5, 15, 16, 17, 18, 19, 20] (by decide +kernel) (by decide +kernel)
set_option maxRecDepth 20000 in
theorem gJ0_charAt_5068e_J1_charAt_3b067 : GoodIn wsJ0_charAt_5068e (va_wsS RJ0 495 yJ1_charAt_3b067 wsJ1_charAt_3b067) := goodIn_app (goodIn_of _ (by decide +kernel)) ggJ0_charAt_5068e_J1_charAt_3b067
set_option maxRecDepth 20000 in
theorem ggJ0_charAt_5068e_J2_charAt_3b067 : GoodIn wsJ0_charAt_5068e wsJ2_charAt_3b067 := goodIn_r _ [24, 25, 26, 23, 27, 28, 29, 30, 31, 14, 5, 15, 16, 17, 18, 19, 20, 32, 33, 34, 35, 36, 37] (by decide +kernel) (by decide +kernel)
set_option maxRecDepth 20000 in
theorem gJ0_charAt_5068e_J2_charAt_3b067 : GoodIn wsJ0_charAt_5068e (va_wsS RJ0 498 yJ2_charAt_3b067 wsJ2_charAt_3b067) := goodIn_app (goodIn_of _ (by decide +kernel)) ggJ0_charAt_5068e_J2_charAt_3b067
theorem dJ0_charAt_5068e_0 : decode cJ0_charAt_5068e 0 = .ok (.aload_n 0, 1) := by decide +kernel
theorem dJ0_charAt_5068e_1 : decode cJ0_charAt_5068e 1 = .ok (.invokevirtual 492, 3) := by decide +kernel
theorem dJ0_charAt_5068e_4 : decode cJ0_charAt_5068e 4 = .ok (.ifCond .eq 12, 3) := by decide +kernel
theorem dJ0_charAt_5068e_7 : decode cJ0_charAt_5068e 7 = .ok (.aload_n 0, 1) := by decide +kernel
theorem dJ0_charAt_5068e_8 : decode cJ0_charAt_5068e 8 = .ok (.getfield 9, 3) := by decide +kernel
theorem dJ0_charAt_5068e_11 : decode cJ0_charAt_5068e 11 = .ok (.iload_n 1, 1) := by decide +kernel
theorem dJ0_charAt_5068e_12 : decode cJ0_charAt_5068e 12 = .ok (.invokestatic 495, 3) := by decide +kernel
theorem dJ0_charAt_5068e_15 : decode cJ0_charAt_5068e 15 = .ok (.ireturn, 1) := by decide +kernel
theorem dJ0_charAt_5068e_16 : decode cJ0_charAt_5068e 16 = .ok (.aload_n 0, 1) := by decide +kernel
theorem dJ0_charAt_5068e_17 : decode cJ0_charAt_5068e 17 = .ok (.getfield 9, 3) := by decide +kernel
theorem dJ0_charAt_5068e_20 : decode cJ0_charAt_5068e 20 = .ok (.iload_n 1, 1) := by decide +kernel
theorem dJ0_charAt_5068e_21 : decode cJ0_charAt_5068e 21 = .ok (.invokestatic 498, 3) := by decide +kernel
theorem dJ0_charAt_5068e_24 : decode cJ0_charAt_5068e 24 = .ok (.ireturn, 1) := by decide +kernel
theorem dJ0_coder_7d493_0 : decode cJ0_coder_7d493 0 = .ok (.getstatic 38, 3) := by decide +kernel
theorem dJ0_coder_7d493_3 : decode cJ0_coder_7d493 3 = .ok (.ifCond .eq 10, 3) := by decide +kernel
theorem dJ0_coder_7d493_6 : decode cJ0_coder_7d493 6 = .ok (.aload_n 0, 1) := by decide +kernel
theorem dJ0_coder_7d493_7 : decode cJ0_coder_7d493 7 = .ok (.getfield 15, 3) := by decide +kernel
theorem dJ0_coder_7d493_10 : decode cJ0_coder_7d493 10 = .ok (.goto 4, 3) := by decide +kernel
theorem dJ0_coder_7d493_13 : decode cJ0_coder_7d493 13 = .ok (.iconst 1, 1) := by decide +kernel
theorem dJ0_coder_7d493_14 : decode cJ0_coder_7d493 14 = .ok (.ireturn, 1) := by decide +kernel
theorem dJ0_isLatin1_aae02_0 : decode cJ0_isLatin1_aae02 0 = .ok (.getstatic 38, 3) := by decide +kernel
theorem dJ0_isLatin1_aae02_3 : decode cJ0_isLatin1_aae02 3 = .ok (.ifCond .eq 14, 3) := by decide +kernel
theorem dJ0_isLatin1_aae02_6 : decode cJ0_isLatin1_aae02 6 = .ok (.aload_n 0, 1) := by decide +kernel
theorem dJ0_isLatin1_aae02_7 : decode cJ0_isLatin1_aae02 7 = .ok (.getfield 15, 3) := by decide +kernel
theorem dJ0_isLatin1_aae02_10 : decode cJ0_isLatin1_aae02 10 = .ok (.ifCond .ne 7, 3) := by decide +kernel
theorem dJ0_isLatin1_aae02_13 : decode cJ0_isLatin1_aae02 13 = .ok (.iconst 1, 1) := by decide +kernel
theorem dJ0_isLatin1_aae02_14 : decode cJ0_isLatin1_aae02 14 = .ok (.goto 4, 3) := by decide +kernel
theorem dJ0_isLatin1_aae02_17 : decode cJ0_isLatin1_aae02 17 = .ok (.iconst 0, 1) := by decide +kernel
theorem dJ0_isLatin1_aae02_18 : decode cJ0_isLatin1_aae02 18 = .ok (.ireturn, 1) := by decide +kernel
set_option maxRecDepth 20000 in
theorem ggJ0_checkIndex_df160_J3_checkIndex_8e157 : GoodIn wsJ0_checkIndex_df160 wsJ3_checkIndex_8e157 := goodIn_r _ [5] (by decide +kernel) (by decide +kernel)
set_option maxRecDepth 20000 in
theorem gJ0_checkIndex_df160_J3_checkIndex_8e157 : GoodIn wsJ0_checkIndex_df160 (va_wsS RJ0 1059 yJ3_checkIndex_8e157 wsJ3_checkIndex_8e157) := goodIn_app (goodIn_of _ (by decide +kernel)) ggJ0_checkIndex_df160_J3_checkIndex_8e157
theorem dJ0_checkIndex_df160_0 : decode cJ0_checkIndex_df160 0 = .ok (.iload_n 0, 1) := by decide +kernel
theorem dJ0_checkIndex_df160_1 : decode cJ0_checkIndex_df160 1 = .ok (.iload_n 1, 1) := by decide +kernel
theorem dJ0_checkIndex_df160_2 : decode cJ0_checkIndex_df160 2 = .ok (.getstatic 1053, 3) := by decide +kernel
theorem dJ0_checkIndex_df160_5 : decode cJ0_checkIndex_df160 5 = .ok (.invokestatic 1059, 3) := by decide +kernel
theorem dJ0_checkIndex_df160_8 : decode cJ0_checkIndex_df160 8 = .ok (.pop, 1) := by decide +kernel
theorem dJ0_checkIndex_df160_9 : decode cJ0_checkIndex_df160 9 = .ok (.return_, 1) := by decide +kernel
set_option maxRecDepth 20000 in
theorem ggJ1_charAt_3b067_J0_checkIndex_df160 : GoodIn wsJ1_charAt_3b067 wsJ0_checkIndex_df160 := goodIn_r _ [4, 5, 6, 7, 8, 9] (by decide +kernel) (by decide +kernel)
set_option maxRecDepth 20000 in
theorem gJ1_charAt_3b067_J0_checkIndex_df160 : GoodIn wsJ1_charAt_3b067 (va_wsS RJ1 9 yJ0_checkIndex_df160 wsJ0_checkIndex_df160) := goodIn_app (goodIn_of _ (by decide +kernel)) ggJ1_charAt_3b067_J0_checkIndex_df160
theorem dJ1_charAt_3b067_0 : decode cJ1_charAt_3b067 0 = .ok (.iload_n 1, 1) := by decide +kernel
theorem dJ1_charAt_3b067_1 : decode cJ1_charAt_3b067 1 = .ok (.aload_n 0, 1) := by decide +kernel
theorem dJ1_charAt_3b067_2 : decode cJ1_charAt_3b067 2 = .ok (.arraylength, 1) := by decide +kernel
theorem dJ1_charAt_3b067_3 : decode cJ1_charAt_3b067 3 = .ok (.invokestatic 9, 3) := by decide +kernel
theorem dJ1_charAt_3b067_6 : decode cJ1_charAt_3b067 6 = .ok (.aload_n 0, 1) := by decide +kernel
theorem dJ1_charAt_3b067_7 : decode cJ1_charAt_3b067 7 = .ok (.iload_n 1, 1) := by decide +kernel
theorem dJ1_charAt_3b067_8 : decode cJ1_charAt_3b067 8 = .ok (.baload, 1) := by decide +kernel
theorem dJ1_charAt_3b067_9 : decode cJ1_charAt_3b067 9 = .ok (.sipush 255, 3) := by decide +kernel
theorem dJ1_charAt_3b067_12 : decode cJ1_charAt_3b067 12 = .ok (.iand, 1) := by decide +kernel
theorem dJ1_charAt_3b067_13 : decode cJ1_charAt_3b067 13 = .ok (.i2c, 1) := by decide +kernel
theorem dJ1_charAt_3b067_14 : decode cJ1_charAt_3b067 14 = .ok (.ireturn, 1) := by decide +kernel
set_option maxRecDepth 20000 in
theorem ggJ2_getChar_3b067_J2_length_9d52b : GoodIn wsJ2_getChar_3b067 wsJ2_length_9d52b := goodIn_r _ [7] (by decide +kernel) (by decide +kernel)
set_option maxRecDepth 20000 in
theorem gJ2_getChar_3b067_J2_length_9d52b : GoodIn wsJ2_getChar_3b067 (va_wsS RJ2 48 yJ2_length_9d52b wsJ2_length_9d52b) := goodIn_app (goodIn_of _ (by decide +kernel)) ggJ2_getChar_3b067_J2_length_9d52b
theorem dJ2_getChar_3b067_0 : decode cJ2_getChar_3b067 0 = .ok (.getstatic 44, 3) := by decide +kernel
theorem dJ2_getChar_3b067_3 : decode cJ2_getChar_3b067 3 = .ok (.ifCond .ne 25, 3) := by decide +kernel
theorem dJ2_getChar_3b067_6 : decode cJ2_getChar_3b067 6 = .ok (.iload_n 1, 1) := by decide +kernel
theorem dJ2_getChar_3b067_7 : decode cJ2_getChar_3b067 7 = .ok (.ifCond .lt 11, 3) := by decide +kernel
theorem dJ2_getChar_3b067_10 : decode cJ2_getChar_3b067 10 = .ok (.iload_n 1, 1) := by decide +kernel
theorem dJ2_getChar_3b067_11 : decode cJ2_getChar_3b067 11 = .ok (.aload_n 0, 1) := by decide +kernel
theorem dJ2_getChar_3b067_12 : decode cJ2_getChar_3b067 12 = .ok (.invokestatic 48, 3) := by decide +kernel
theorem dJ2_getChar_3b067_15 : decode cJ2_getChar_3b067 15 = .ok (.if_icmp .lt 13, 3) := by decide +kernel
theorem dJ2_getChar_3b067_18 : decode cJ2_getChar_3b067 18 = .ok (.new 52, 3) := by decide +kernel
theorem dJ2_getChar_3b067_21 : decode cJ2_getChar_3b067 21 = .ok (.dup, 1) := by decide +kernel
theorem dJ2_getChar_3b067_22 : decode cJ2_getChar_3b067 22 = .ok (.ldc 54, 2) := by decide +kernel
theorem dJ2_getChar_3b067_24 : decode cJ2_getChar_3b067 24 = .ok (.invokespecial 56, 3) := by decide +kernel
theorem dJ2_getChar_3b067_27 : decode cJ2_getChar_3b067 27 = .ok (.athrow, 1) := by decide +kernel
theorem dJ2_getChar_3b067_28 : decode cJ2_getChar_3b067 28 = .ok (.iload_n 1, 1) := by decide +kernel
theorem dJ2_getChar_3b067_29 : decode cJ2_getChar_3b067 29 = .ok (.iconst 1, 1) := by decide +kernel
theorem dJ2_getChar_3b067_30 : decode cJ2_getChar_3b067 30 = .ok (.ishl, 1) := by decide +kernel
theorem dJ2_getChar_3b067_31 : decode cJ2_getChar_3b067 31 = .ok (.istore_n 1, 1) := by decide +kernel
theorem dJ2_getChar_3b067_32 : decode cJ2_getChar_3b067 32 = .ok (.aload_n 0, 1) := by decide +kernel
theorem dJ2_getChar_3b067_33 : decode cJ2_getChar_3b067 33 = .ok (.iload_n 1, 1) := by decide +kernel
theorem dJ2_getChar_3b067_34 : decode cJ2_getChar_3b067 34 = .ok (.iinc 1 1, 3) := by decide +kernel
theorem dJ2_getChar_3b067_37 : decode cJ2_getChar_3b067 37 = .ok (.baload, 1) := by decide +kernel
theorem dJ2_getChar_3b067_38 : decode cJ2_getChar_3b067 38 = .ok (.sipush 255, 3) := by decide +kernel
theorem dJ2_getChar_3b067_41 : decode cJ2_getChar_3b067 41 = .ok (.iand, 1) := by decide +kernel
theorem dJ2_getChar_3b067_42 : decode cJ2_getChar_3b067 42 = .ok (.getstatic 59, 3) := by decide +kernel
theorem dJ2_getChar_3b067_45 : decode cJ2_getChar_3b067 45 = .ok (.ishl, 1) := by decide +kernel
theorem dJ2_getChar_3b067_46 : decode cJ2_getChar_3b067 46 = .ok (.aload_n 0, 1) := by decide +kernel
theorem dJ2_getChar_3b067_47 : decode cJ2_getChar_3b067 47 = .ok (.iload_n 1, 1) := by decide +kernel
theorem dJ2_getChar_3b067_48 : decode cJ2_getChar_3b067 48 = .ok (.baload, 1) := by decide +kernel
theorem dJ2_getChar_3b067_49 : decode cJ2_getChar_3b067 49 = .ok (.sipush 255, 3) := by decide +kernel
theorem dJ2_getChar_3b067_52 : decode cJ2_getChar_3b067 52 = .ok (.iand, 1) := by decide +kernel
theorem dJ2_getChar_3b067_53 : decode cJ2_getChar_3b067 53 = .ok (.getstatic 63, 3) := by decide +kernel
theorem dJ2_getChar_3b067_56 : decode cJ2_getChar_3b067 56 = .ok (.ishl, 1) := by decide +kernel
theorem dJ2_getChar_3b067_57 : decode cJ2_getChar_3b067 57 = .ok (.ior, 1) := by decide +kernel
theorem dJ2_getChar_3b067_58 : decode cJ2_getChar_3b067 58 = .ok (.i2c, 1) := by decide +kernel
theorem dJ2_getChar_3b067_59 : decode cJ2_getChar_3b067 59 = .ok (.ireturn, 1) := by decide +kernel
theorem dJ2_length_9d52b_0 : decode cJ2_length_9d52b 0 = .ok (.aload_n 0, 1) := by decide +kernel
theorem dJ2_length_9d52b_1 : decode cJ2_length_9d52b 1 = .ok (.arraylength, 1) := by decide +kernel
theorem dJ2_length_9d52b_2 : decode cJ2_length_9d52b 2 = .ok (.iconst 1, 1) := by decide +kernel
theorem dJ2_length_9d52b_3 : decode cJ2_length_9d52b 3 = .ok (.ishr, 1) := by decide +kernel
theorem dJ2_length_9d52b_4 : decode cJ2_length_9d52b 4 = .ok (.ireturn, 1) := by decide +kernel
set_option maxRecDepth 20000 in
theorem ggJ2_charAt_3b067_J2_checkIndex_2214a : GoodIn wsJ2_charAt_3b067 wsJ2_checkIndex_2214a := goodIn_r _ [4, 5, 6, 3, 7, 8, 9, 10, 11, 12, 13, 14, 15, 16] (by decide +kernel) (by decide +kernel)
set_option maxRecDepth 20000 in
theorem gJ2_charAt_3b067_J2_checkIndex_2214a : GoodIn wsJ2_charAt_3b067 (va_wsS RJ2 67 yJ2_checkIndex_2214a wsJ2_checkIndex_2214a) := goodIn_app (goodIn_of _ (by decide +kernel)) ggJ2_charAt_3b067_J2_checkIndex_2214a
set_option maxRecDepth 20000 in
theorem ggJ2_charAt_3b067_J2_getChar_3b067 : GoodIn wsJ2_charAt_3b067 wsJ2_getChar_3b067 := goodIn_r _ [19, 20, 21, 22, 5, 6, 3, 7] (by decide +kernel) (by decide +kernel)
set_option maxRecDepth 20000 in
theorem gJ2_charAt_3b067_J2_getChar_3b067 : GoodIn wsJ2_charAt_3b067 (va_wsS RJ2 71 yJ2_getChar_3b067 wsJ2_getChar_3b067) := goodIn_app (goodIn_of _ (by decide +kernel)) ggJ2_charAt_3b067_J2_getChar_3b067
theorem dJ2_charAt_3b067_0 : decode cJ2_charAt_3b067 0 = .ok (.iload_n 1, 1) := by decide +kernel
theorem dJ2_charAt_3b067_1 : decode cJ2_charAt_3b067 1 = .ok (.aload_n 0, 1) := by decide +kernel
theorem dJ2_charAt_3b067_2 : decode cJ2_charAt_3b067 2 = .ok (.invokestatic 67, 3) := by decide +kernel
theorem dJ2_charAt_3b067_5 : decode cJ2_charAt_3b067 5 = .ok (.aload_n 0, 1) := by decide +kernel
theorem dJ2_charAt_3b067_6 : decode cJ2_charAt_3b067 6 = .ok (.iload_n 1, 1) := by decide +kernel
theorem dJ2_charAt_3b067_7 : decode cJ2_charAt_3b067 7 = .ok (.invokestatic 71, 3) := by decide +kernel
theorem dJ2_charAt_3b067_10 : decode cJ2_charAt_3b067 10 = .ok (.ireturn, 1) := by decide +kernel
set_option maxRecDepth 20000 in
theorem ggJ2_checkIndex_2214a_J2_length_9d52b : GoodIn wsJ2_checkIndex_2214a wsJ2_length_9d52b := goodIn_r _ [4] (by decide +kernel) (by decide +kernel)
set_option maxRecDepth 20000 in
theorem gJ2_checkIndex_2214a_J2_length_9d52b : GoodIn wsJ2_checkIndex_2214a (va_wsS RJ2 48 yJ2_length_9d52b wsJ2_length_9d52b) := goodIn_app (goodIn_of _ (by decide +kernel)) ggJ2_checkIndex_2214a_J2_length_9d52b
set_option maxRecDepth 20000 in
theorem ggJ2_checkIndex_2214a_J0_checkIndex_df160 : GoodIn wsJ2_checkIndex_2214a wsJ0_checkIndex_df160 := goodIn_r _ [8, 9, 10, 11, 12, 13] (by decide +kernel) (by decide +kernel)
set_option maxRecDepth 20000 in
theorem gJ2_checkIndex_2214a_J0_checkIndex_df160 : GoodIn wsJ2_checkIndex_2214a (va_wsS RJ2 414 yJ0_checkIndex_df160 wsJ0_checkIndex_df160) := goodIn_app (goodIn_of _ (by decide +kernel)) ggJ2_checkIndex_2214a_J0_checkIndex_df160
theorem dJ2_checkIndex_2214a_0 : decode cJ2_checkIndex_2214a 0 = .ok (.iload_n 0, 1) := by decide +kernel
theorem dJ2_checkIndex_2214a_1 : decode cJ2_checkIndex_2214a 1 = .ok (.aload_n 1, 1) := by decide +kernel
theorem dJ2_checkIndex_2214a_2 : decode cJ2_checkIndex_2214a 2 = .ok (.invokestatic 48, 3) := by decide +kernel
theorem dJ2_checkIndex_2214a_5 : decode cJ2_checkIndex_2214a 5 = .ok (.invokestatic 414, 3) := by decide +kernel
theorem dJ2_checkIndex_2214a_8 : decode cJ2_checkIndex_2214a 8 = .ok (.return_, 1) := by decide +kernel
theorem dJ7_fill_53178_0 : decode cJ7_fill_53178 0 = .ok (.iconst 0, 1) := by decide +kernel
theorem dJ7_fill_53178_1 : decode cJ7_fill_53178 1 = .ok (.istore_n 2, 1) := by decide +kernel
theorem dJ7_fill_53178_2 : decode cJ7_fill_53178 2 = .ok (.aload_n 0, 1) := by decide +kernel
theorem dJ7_fill_53178_3 : decode cJ7_fill_53178 3 = .ok (.arraylength, 1) := by decide +kernel
theorem dJ7_fill_53178_4 : decode cJ7_fill_53178 4 = .ok (.istore_n 3, 1) := by decide +kernel
theorem dJ7_fill_53178_5 : decode cJ7_fill_53178 5 = .ok (.iload_n 2, 1) := by decide +kernel
theorem dJ7_fill_53178_6 : decode cJ7_fill_53178 6 = .ok (.iload_n 3, 1) := by decide +kernel
theorem dJ7_fill_53178_7 : decode cJ7_fill_53178 7 = .ok (.if_icmp .ge 13, 3) := by decide +kernel
theorem dJ7_fill_53178_10 : decode cJ7_fill_53178 10 = .ok (.aload_n 0, 1) := by decide +kernel
theorem dJ7_fill_53178_11 : decode cJ7_fill_53178 11 = .ok (.iload_n 2, 1) := by decide +kernel
theorem dJ7_fill_53178_12 : decode cJ7_fill_53178 12 = .ok (.iload_n 1, 1) := by decide +kernel
theorem dJ7_fill_53178_13 : decode cJ7_fill_53178 13 = .ok (.iastore, 1) := by decide +kernel
theorem dJ7_fill_53178_14 : decode cJ7_fill_53178 14 = .ok (.iinc 2 1, 3) := by decide +kernel
theorem dJ7_fill_53178_17 : decode cJ7_fill_53178 17 = .ok (.goto (-12), 3) := by decide +kernel
theorem dJ7_fill_53178_20 : decode cJ7_fill_53178 20 = .ok (.return_, 1) := by decide +kernel
theorem dJ3_checkIndex_8e157_0 : decode cJ3_checkIndex_8e157 0 = .ok (.iload_n 0, 1) := by decide +kernel
theorem dJ3_checkIndex_8e157_1 : decode cJ3_checkIndex_8e157 1 = .ok (.ifCond .lt 8, 3) := by decide +kernel
theorem dJ3_checkIndex_8e157_4 : decode cJ3_checkIndex_8e157 4 = .ok (.iload_n 0, 1) := by decide +kernel
theorem dJ3_checkIndex_8e157_5 : decode cJ3_checkIndex_8e157 5 = .ok (.iload_n 1, 1) := by decide +kernel
theorem dJ3_checkIndex_8e157_6 : decode cJ3_checkIndex_8e157 6 = .ok (.if_icmp .lt 10, 3) := by decide +kernel
theorem dJ3_checkIndex_8e157_9 : decode cJ3_checkIndex_8e157 9 = .ok (.aload_n 2, 1) := by decide +kernel
theorem dJ3_checkIndex_8e157_10 : decode cJ3_checkIndex_8e157 10 = .ok (.iload_n 0, 1) := by decide +kernel
theorem dJ3_checkIndex_8e157_11 : decode cJ3_checkIndex_8e157 11 = .ok (.iload_n 1, 1) := by decide +kernel
theorem dJ3_checkIndex_8e157_12 : decode cJ3_checkIndex_8e157 12 = .ok (.invokestatic 95, 3) := by decide +kernel
theorem dJ3_checkIndex_8e157_15 : decode cJ3_checkIndex_8e157 15 = .ok (.athrow, 1) := by decide +kernel
theorem dJ3_checkIndex_8e157_16 : decode cJ3_checkIndex_8e157 16 = .ok (.iload_n 0, 1) := by decide +kernel
theorem dJ3_checkIndex_8e157_17 : decode cJ3_checkIndex_8e157 17 = .ok (.ireturn, 1) := by decide +kernel
set_option maxRecDepth 20000 in
theorem ggL_heap_X11_heap : GoodIn wsL_heap wsX11_heap := goodIn_ca (goodIn_r _ [6, 7, 8, 9, 10, 11, 12, 13, 14, 15, 16, 17, 18, 19, 20, 21, 22, 23, 24, 25, 26, 27, 28, 29, 30, 31, 32, 33, 34, 35, 36, 37, 38, 39, 40, 41, 42, 43, 44, 45, 46, 47, 48, 49, 50, 51, 52, 53, 54, 55, 56, 57, 58, 59, 60, 61, 62, 63, 64, 65, 66, 67, 68, 69, 70, 71, 72, 73, 74, 75, 76, 77, 78, 79, 80, 81, 82, 83, 84, 85, 86, 87, 88, 89, 90, 91, 92, 93, 94, 95, 96, 97, 98, 99, 100, 101, 102, 103, 104, 105, 106, 107, 108, 109, 110, 111, 112, 113, 114, 115, 116, 117, 118, 119, 120, 121, 122, 123, 124, 125, 126, 127, 128, 129, 130, 131, 132, 133, 134, 135, 136, 137, 138, 139, 140, 141, 142, 5, 143, 144, 145, 146, 147, 148, 149, 150, 151, 152, 153, 154, 155, 156, 157, 158, 159, 160, 161, 162, 163, 164, 165, 166, 167, 168, 169, 170, 171, 172, 173, 174, 175, 176, 177, 178, 179, 180, 181, 182, 183, 184, 185, 186, 187, 188, 189, 190, 191, 192, 193, 194, 195, 196, 197, 198, 199, 200, 201, 202, 203, 204, 205, 206, 207, 208, 209, 210, 211, 212, 213, 214, 215, 216, 217, 218, 219, 220, 221, 222, 223, 224, 225, 226, 227, 228, 229, 230, 231, 232, 233, 234, 235, 236, 237, 238, 239, 240, 241, 242, 243, 244, 245, 246, 247, 248, 249, 250, 251, 252, 253, 254, 255, 256, 257, 258] (by decide +kernel) (by decide +kernel)) (goodIn_sub (fun _ h => List.mem_cons_of_mem _ (List.mem_append_right _ h)) (by decide +kernel))
set_option maxRecDepth 20000 in
theorem gL_heap_X11_heap : GoodIn wsL_heap (wsV RL 7 RX11 yX11_heap wsX11_heap) := goodIn_app (goodIn_of _ (by decide +kernel)) ggL_heap_X11_heap
theorem dL_heap_0 : decode cL_heap 0 = .ok (.aload_n 2, 1) := by decide +kernel
theorem dL_heap_1 : decode cL_heap 1 = .ok (.iconst 0, 1) := by decide +kernel
theorem dL_heap_2 : decode cL_heap 2 = .ok (.aload_n 0, 1) := by decide +kernel
theorem dL_heap_3 : decode cL_heap 3 = .ok (.iload_n 1, 1) := by decide +kernel
theorem dL_heap_4 : decode cL_heap 4 = .ok (.invokevirtual 7, 3) := by decide +kernel
theorem dL_heap_7 : decode cL_heap 7 = .ok (.i2l, 1) := by decide +kernel
theorem dL_heap_8 : decode cL_heap 8 = .ok (.lastore, 1) := by decide +kernel
theorem dL_heap_9 : decode cL_heap 9 = .ok (.goto 6, 3) := by decide +kernel
theorem dL_heap_12 : decode cL_heap 12 = .ok (.astore_n 3, 1) := by decide +kernel
theorem dL_heap_13 : decode cL_heap 13 = .ok (.iconst 1, 1) := by decide +kernel
theorem dL_heap_14 : decode cL_heap 14 = .ok (.ireturn, 1) := by decide +kernel
theorem dL_heap_15 : decode cL_heap 15 = .ok (.iconst 0, 1) := by decide +kernel
theorem dL_heap_16 : decode cL_heap 16 = .ok (.ireturn, 1) := by decide +kernel
set_option maxRecDepth 20000 in
theorem ggL_count_X11_count : GoodIn wsL_count wsX11_count := goodIn_ca (goodIn_r _ [6, 7, 8, 9, 10, 11, 12, 13, 14, 15, 16, 17, 18, 19, 20, 21, 22, 23, 24, 25, 26, 27, 28, 29, 30, 31, 32, 33, 34, 35, 36, 37, 38, 39, 40, 41, 42, 43, 44, 45, 46, 47, 48, 49, 50, 51, 52, 53, 54, 55, 56, 57, 58, 59, 60, 61, 62, 63, 64, 65, 66, 67, 68, 69, 70, 71] (by decide +kernel) (by decide +kernel)) (goodIn_sub (fun _ h => List.mem_cons_of_mem _ (List.mem_append_right _ h)) (by decide +kernel))
set_option maxRecDepth 20000 in
theorem gL_count_X11_count : GoodIn wsL_count (wsV RL 15 RX11 yX11_count wsX11_count) := goodIn_app (goodIn_of _ (by decide +kernel)) ggL_count_X11_count
theorem dL_count_0 : decode cL_count 0 = .ok (.aload_n 2, 1) := by decide +kernel
theorem dL_count_1 : decode cL_count 1 = .ok (.iconst 0, 1) := by decide +kernel
theorem dL_count_2 : decode cL_count 2 = .ok (.aload_n 0, 1) := by decide +kernel
theorem dL_count_3 : decode cL_count 3 = .ok (.iload_n 1, 1) := by decide +kernel
theorem dL_count_4 : decode cL_count 4 = .ok (.invokevirtual 15, 3) := by decide +kernel
theorem dL_count_7 : decode cL_count 7 = .ok (.i2l, 1) := by decide +kernel
theorem dL_count_8 : decode cL_count 8 = .ok (.lastore, 1) := by decide +kernel
theorem dL_count_9 : decode cL_count 9 = .ok (.goto 6, 3) := by decide +kernel
theorem dL_count_12 : decode cL_count 12 = .ok (.astore_n 3, 1) := by decide +kernel
theorem dL_count_13 : decode cL_count 13 = .ok (.iconst 1, 1) := by decide +kernel
theorem dL_count_14 : decode cL_count 14 = .ok (.ireturn, 1) := by decide +kernel
theorem dL_count_15 : decode cL_count 15 = .ok (.iconst 0, 1) := by decide +kernel
theorem dL_count_16 : decode cL_count 16 = .ok (.ireturn, 1) := by decide +kernel
set_option maxRecDepth 20000 in
theorem ggL_word_X11_word : GoodIn wsL_word wsX11_word := goodIn_ca (goodIn_r _ [6, 7, 8, 9, 10, 11, 12, 13, 14, 5, 15, 16, 17, 18, 19, 20, 21, 22, 23, 24, 25, 26, 27, 28, 29, 30, 31, 32, 33, 34, 35, 36, 37, 38, 39, 40, 41, 42, 43, 44, 45, 46, 47, 48, 49, 50, 51, 52, 53, 54, 55, 56, 57] (by decide +kernel) (by decide +kernel)) (goodIn_sub (fun _ h => List.mem_cons_of_mem _ (List.mem_append_right _ h)) (by decide +kernel))
set_option maxRecDepth 20000 in
theorem gL_word_X11_word : GoodIn wsL_word (wsV RL 20 RX11 yX11_word wsX11_word) := goodIn_app (goodIn_of _ (by decide +kernel)) ggL_word_X11_word
theorem dL_word_0 : decode cL_word 0 = .ok (.aload_n 3, 1) := by decide +kernel
theorem dL_word_1 : decode cL_word 1 = .ok (.iconst 0, 1) := by decide +kernel
theorem dL_word_2 : decode cL_word 2 = .ok (.aload_n 0, 1) := by decide +kernel
theorem dL_word_3 : decode cL_word 3 = .ok (.iload_n 1, 1) := by decide +kernel
theorem dL_word_4 : decode cL_word 4 = .ok (.iload_n 2, 1) := by decide +kernel
theorem dL_word_5 : decode cL_word 5 = .ok (.invokevirtual 20, 3) := by decide +kernel
theorem dL_word_8 : decode cL_word 8 = .ok (.i2l, 1) := by decide +kernel
theorem dL_word_9 : decode cL_word 9 = .ok (.lastore, 1) := by decide +kernel
theorem dL_word_10 : decode cL_word 10 = .ok (.goto 7, 3) := by decide +kernel
theorem dL_word_13 : decode cL_word 13 = .ok (.astore 4, 2) := by decide +kernel
theorem dL_word_15 : decode cL_word 15 = .ok (.iconst 1, 1) := by decide +kernel
theorem dL_word_16 : decode cL_word 16 = .ok (.ireturn, 1) := by decide +kernel
theorem dL_word_17 : decode cL_word 17 = .ok (.iconst 0, 1) := by decide +kernel
theorem dL_word_18 : decode cL_word 18 = .ok (.ireturn, 1) := by decide +kernel
set_option maxRecDepth 20000 in
theorem ggL_line_X11_line : GoodIn wsL_line wsX11_line := goodIn_ca (goodIn_r _ [6, 7, 8, 9, 10, 11, 12, 13, 14, 15, 16, 5, 17, 18, 19, 20, 21, 22, 23, 24, 25, 26, 27, 28, 29, 30, 31, 32, 33, 34, 35, 36, 37, 38, 39, 40, 41, 42, 43, 44, 45, 46, 47, 48, 49, 50, 51] (by decide +kernel) (by decide +kernel)) (goodIn_sub (fun _ h => List.mem_cons_of_mem _ (List.mem_append_right _ h)) (by decide +kernel))
set_option maxRecDepth 20000 in
theorem gL_line_X11_line : GoodIn wsL_line (wsV RL 24 RX11 yX11_line wsX11_line) := goodIn_app (goodIn_of _ (by decide +kernel)) ggL_line_X11_line
theorem dL_line_0 : decode cL_line 0 = .ok (.aload_n 3, 1) := by decide +kernel
theorem dL_line_1 : decode cL_line 1 = .ok (.iconst 0, 1) := by decide +kernel
theorem dL_line_2 : decode cL_line 2 = .ok (.aload_n 0, 1) := by decide +kernel
theorem dL_line_3 : decode cL_line 3 = .ok (.iload_n 1, 1) := by decide +kernel
theorem dL_line_4 : decode cL_line 4 = .ok (.iload_n 2, 1) := by decide +kernel
theorem dL_line_5 : decode cL_line 5 = .ok (.invokevirtual 24, 3) := by decide +kernel
theorem dL_line_8 : decode cL_line 8 = .ok (.i2l, 1) := by decide +kernel
theorem dL_line_9 : decode cL_line 9 = .ok (.lastore, 1) := by decide +kernel
theorem dL_line_10 : decode cL_line 10 = .ok (.goto 7, 3) := by decide +kernel
theorem dL_line_13 : decode cL_line 13 = .ok (.astore 4, 2) := by decide +kernel
theorem dL_line_15 : decode cL_line 15 = .ok (.iconst 1, 1) := by decide +kernel
theorem dL_line_16 : decode cL_line 16 = .ok (.ireturn, 1) := by decide +kernel
theorem dL_line_17 : decode cL_line 17 = .ok (.iconst 0, 1) := by decide +kernel
theorem dL_line_18 : decode cL_line 18 = .ok (.ireturn, 1) := by decide +kernel
set_option maxRecDepth 20000 in
theorem ggL_micro_X11_micro : GoodIn wsL_micro wsX11_micro := goodIn_ca (goodIn_r _ [6, 7, 8, 9, 10, 11, 12, 13, 14, 15, 16, 17, 18, 19, 20, 21, 22, 23, 24, 25, 26, 27, 28, 29, 30, 31, 32, 33, 34, 35, 36, 37, 38, 39, 40, 41, 42, 43, 44, 45, 46, 47, 48, 49] (by decide +kernel) (by decide +kernel)) (goodIn_sub (fun _ h => List.mem_cons_of_mem _ (List.mem_append_right _ h)) (by decide +kernel))
set_option maxRecDepth 20000 in
theorem gL_micro_X11_micro : GoodIn wsL_micro (wsV RL 28 RX11 yX11_micro wsX11_micro) := goodIn_app (goodIn_of _ (by decide +kernel)) ggL_micro_X11_micro
theorem dL_micro_0 : decode cL_micro 0 = .ok (.aload_n 3, 1) := by decide +kernel
theorem dL_micro_1 : decode cL_micro 1 = .ok (.iconst 0, 1) := by decide +kernel
theorem dL_micro_2 : decode cL_micro 2 = .ok (.aload_n 0, 1) := by decide +kernel
theorem dL_micro_3 : decode cL_micro 3 = .ok (.iload_n 1, 1) := by decide +kernel
theorem dL_micro_4 : decode cL_micro 4 = .ok (.iload_n 2, 1) := by decide +kernel
theorem dL_micro_5 : decode cL_micro 5 = .ok (.invokevirtual 28, 3) := by decide +kernel
theorem dL_micro_8 : decode cL_micro 8 = .ok (.i2l, 1) := by decide +kernel
theorem dL_micro_9 : decode cL_micro 9 = .ok (.lastore, 1) := by decide +kernel
theorem dL_micro_10 : decode cL_micro 10 = .ok (.goto 7, 3) := by decide +kernel
theorem dL_micro_13 : decode cL_micro 13 = .ok (.astore 4, 2) := by decide +kernel
theorem dL_micro_15 : decode cL_micro 15 = .ok (.iconst 1, 1) := by decide +kernel
theorem dL_micro_16 : decode cL_micro 16 = .ok (.ireturn, 1) := by decide +kernel
theorem dL_micro_17 : decode cL_micro 17 = .ok (.iconst 0, 1) := by decide +kernel
theorem dL_micro_18 : decode cL_micro 18 = .ok (.ireturn, 1) := by decide +kernel
set_option maxRecDepth 20000 in
theorem ggL_shape_X11_shape : GoodIn wsL_shape wsX11_shape := goodIn_ca (goodIn_r _ [6, 7, 8, 9, 10, 11, 12, 13, 14, 15, 16, 17, 18, 19, 20, 21, 22, 23, 24, 25, 26, 27, 28, 29, 30, 31, 32, 33, 34, 35, 36, 37, 38, 39, 40, 41, 5, 42, 43, 44, 45, 46, 47, 48, 49, 50, 51, 52, 53, 54, 55, 56, 57, 58, 59, 60, 61, 62, 63, 64, 65, 66, 67, 68, 69, 70, 71, 72, 73, 74, 75, 76, 77, 78, 79, 80, 81, 82, 83, 84, 85, 86, 87, 88, 89, 90, 91, 92, 93, 94, 95, 96, 97, 98, 99, 100, 101, 102, 103, 104, 105, 106, 107, 108, 109, 110, 111, 112, 113, 114, 115, 116, 117, 118, 119, 120, 121, 122, 123, 124, 125, 126, 127, 128, 129, 130, 131] (by decide +kernel) (by decide +kernel)) (goodIn_sub (fun _ h => List.mem_cons_of_mem _ (List.mem_append_right _ h)) (by decide +kernel))
set_option maxRecDepth 20000 in
theorem gL_shape_X11_shape : GoodIn wsL_shape (wsV RL 31 RX11 yX11_shape wsX11_shape) := goodIn_app (goodIn_of _ (by decide +kernel)) ggL_shape_X11_shape
theorem dL_shape_0 : decode cL_shape 0 = .ok (.aload_n 3, 1) := by decide +kernel
theorem dL_shape_1 : decode cL_shape 1 = .ok (.iconst 0, 1) := by decide +kernel
theorem dL_shape_2 : decode cL_shape 2 = .ok (.aload_n 0, 1) := by decide +kernel
theorem dL_shape_3 : decode cL_shape 3 = .ok (.iload_n 1, 1) := by decide +kernel
theorem dL_shape_4 : decode cL_shape 4 = .ok (.iload_n 2, 1) := by decide +kernel
theorem dL_shape_5 : decode cL_shape 5 = .ok (.invokevirtual 31, 3) := by decide +kernel
theorem dL_shape_8 : decode cL_shape 8 = .ok (.i2l, 1) := by decide +kernel
theorem dL_shape_9 : decode cL_shape 9 = .ok (.lastore, 1) := by decide +kernel
theorem dL_shape_10 : decode cL_shape 10 = .ok (.goto 7, 3) := by decide +kernel
theorem dL_shape_13 : decode cL_shape 13 = .ok (.astore 4, 2) := by decide +kernel
theorem dL_shape_15 : decode cL_shape 15 = .ok (.iconst 1, 1) := by decide +kernel
theorem dL_shape_16 : decode cL_shape 16 = .ok (.ireturn, 1) := by decide +kernel
theorem dL_shape_17 : decode cL_shape 17 = .ok (.iconst 0, 1) := by decide +kernel
theorem dL_shape_18 : decode cL_shape 18 = .ok (.ireturn, 1) := by decide +kernel
set_option maxRecDepth 20000 in
theorem ggL_evict_X11_evict : GoodIn wsL_evict wsX11_evict := goodIn_ca (goodIn_r _ [6, 7, 8, 9, 10, 11, 12, 13, 14, 15, 5, 16, 17, 18, 19, 20, 21, 22, 23, 24, 25, 26, 27, 28, 29, 30, 31, 32, 33, 34, 35, 36, 37, 38, 39, 40, 41, 42, 43, 44, 45, 46, 47, 48, 49, 50, 51, 52, 53, 54, 55, 56, 57, 58, 59, 60, 61, 62, 63, 64, 65, 66, 67, 68, 69, 70, 71, 72, 73, 74, 75, 76, 77, 78, 79, 80, 81, 82, 83, 84, 85, 86, 87, 88, 89, 90, 91, 92, 93, 94, 95, 96, 97, 98, 99, 100, 101, 102, 103, 104, 105, 106, 107, 108, 109, 110, 111, 112, 113, 114, 115, 116, 117, 118, 119, 120, 121, 122] (by decide +kernel) (by decide +kernel)) (goodIn_sub (fun _ h => List.mem_cons_of_mem _ (List.mem_append_right _ h)) (by decide +kernel))
set_option maxRecDepth 20000 in
theorem gL_evict_X11_evict : GoodIn wsL_evict (wsV RL 34 RX11 yX11_evict wsX11_evict) := goodIn_app (goodIn_of _ (by decide +kernel)) ggL_evict_X11_evict
theorem dL_evict_0 : decode cL_evict 0 = .ok (.aload_n 3, 1) := by decide +kernel
theorem dL_evict_1 : decode cL_evict 1 = .ok (.iconst 0, 1) := by decide +kernel
theorem dL_evict_2 : decode cL_evict 2 = .ok (.aload_n 0, 1) := by decide +kernel
theorem dL_evict_3 : decode cL_evict 3 = .ok (.iload_n 1, 1) := by decide +kernel
theorem dL_evict_4 : decode cL_evict 4 = .ok (.iload_n 2, 1) := by decide +kernel
theorem dL_evict_5 : decode cL_evict 5 = .ok (.invokevirtual 34, 3) := by decide +kernel
theorem dL_evict_8 : decode cL_evict 8 = .ok (.i2l, 1) := by decide +kernel
theorem dL_evict_9 : decode cL_evict 9 = .ok (.lastore, 1) := by decide +kernel
theorem dL_evict_10 : decode cL_evict 10 = .ok (.goto 7, 3) := by decide +kernel
theorem dL_evict_13 : decode cL_evict 13 = .ok (.astore 4, 2) := by decide +kernel
theorem dL_evict_15 : decode cL_evict 15 = .ok (.iconst 1, 1) := by decide +kernel
theorem dL_evict_16 : decode cL_evict 16 = .ok (.ireturn, 1) := by decide +kernel
theorem dL_evict_17 : decode cL_evict 17 = .ok (.iconst 0, 1) := by decide +kernel
theorem dL_evict_18 : decode cL_evict 18 = .ok (.ireturn, 1) := by decide +kernel
set_option maxRecDepth 20000 in
theorem ggL_later_X11_later : GoodIn wsL_later wsX11_later := goodIn_ca (goodIn_r _ [6, 7, 8, 9, 10, 11, 12, 13, 14, 5, 15, 16, 17, 18, 19, 20, 21, 22, 23, 24, 25, 26, 27, 28, 29, 30, 31, 32, 33, 34, 35, 36, 37, 38, 39, 40, 41, 42, 43, 44, 45, 46, 47, 48, 49, 50, 51, 52, 53, 54, 55, 56, 57, 58, 59, 60, 61, 62, 63, 64, 65, 66, 67, 68, 69, 70, 71, 72, 73, 74, 75, 76, 77, 78, 79, 80, 81, 82, 83, 84, 85, 86, 87, 88, 89, 90, 91, 92, 93, 94, 95, 96, 97, 98, 99, 100, 101, 102, 103, 104, 105, 106, 107, 108, 109, 110, 111, 112, 113, 114, 115, 116, 117, 118, 119, 120, 121, 122, 123, 124] (by decide +kernel) (by decide +kernel)) (goodIn_sub (fun _ h => List.mem_cons_of_mem _ (List.mem_append_right _ h)) (by decide +kernel))
set_option maxRecDepth 20000 in
theorem gL_later_X11_later : GoodIn wsL_later (wsV RL 37 RX11 yX11_later wsX11_later) := goodIn_app (goodIn_of _ (by decide +kernel)) ggL_later_X11_later
theorem dL_later_0 : decode cL_later 0 = .ok (.aload 4, 2) := by decide +kernel
theorem dL_later_2 : decode cL_later 2 = .ok (.iconst 0, 1) := by decide +kernel
theorem dL_later_3 : decode cL_later 3 = .ok (.aload_n 0, 1) := by decide +kernel
theorem dL_later_4 : decode cL_later 4 = .ok (.iload_n 1, 1) := by decide +kernel
theorem dL_later_5 : decode cL_later 5 = .ok (.iload_n 2, 1) := by decide +kernel
theorem dL_later_6 : decode cL_later 6 = .ok (.iload_n 3, 1) := by decide +kernel
theorem dL_later_7 : decode cL_later 7 = .ok (.invokevirtual 37, 3) := by decide +kernel
theorem dL_later_10 : decode cL_later 10 = .ok (.i2l, 1) := by decide +kernel
theorem dL_later_11 : decode cL_later 11 = .ok (.lastore, 1) := by decide +kernel
theorem dL_later_12 : decode cL_later 12 = .ok (.goto 7, 3) := by decide +kernel
theorem dL_later_15 : decode cL_later 15 = .ok (.astore 5, 2) := by decide +kernel
theorem dL_later_17 : decode cL_later 17 = .ok (.iconst 1, 1) := by decide +kernel
theorem dL_later_18 : decode cL_later 18 = .ok (.ireturn, 1) := by decide +kernel
theorem dL_later_19 : decode cL_later 19 = .ok (.iconst 0, 1) := by decide +kernel
theorem dL_later_20 : decode cL_later 20 = .ok (.ireturn, 1) := by decide +kernel
set_option maxRecDepth 20000 in
theorem ggL_site_X11_site : GoodIn wsL_site wsX11_site := goodIn_ca (goodIn_r _ [6, 7, 8, 9, 10, 11, 12, 13, 14, 15, 16, 17, 18, 19, 20, 21, 22, 23, 24, 25, 26, 27, 28, 29, 30, 31, 32, 33, 34, 35, 36, 37, 38, 39, 40, 41, 42, 43, 44, 45, 46, 47, 48, 49, 50, 51, 52, 53, 54, 55, 56, 57, 58, 59, 60, 61, 62, 63, 64, 65, 66, 67, 68, 69, 70, 71, 72, 73, 74, 75, 76, 77, 78, 79, 80, 81, 82, 83, 84, 85, 86, 87, 88, 89, 90, 91, 92, 93, 94, 95, 96, 97, 98, 99, 100, 101, 102, 103, 104, 105] (by decide +kernel) (by decide +kernel)) (goodIn_sub (fun _ h => List.mem_cons_of_mem _ (List.mem_append_right _ h)) (by decide +kernel))
set_option maxRecDepth 20000 in
theorem gL_site_X11_site : GoodIn wsL_site (wsV RL 41 RX11 yX11_site wsX11_site) := goodIn_app (goodIn_of _ (by decide +kernel)) ggL_site_X11_site
theorem dL_site_0 : decode cL_site 0 = .ok (.aload_n 2, 1) := by decide +kernel
theorem dL_site_1 : decode cL_site 1 = .ok (.iconst 0, 1) := by decide +kernel
theorem dL_site_2 : decode cL_site 2 = .ok (.aload_n 0, 1) := by decide +kernel
theorem dL_site_3 : decode cL_site 3 = .ok (.iload_n 1, 1) := by decide +kernel
theorem dL_site_4 : decode cL_site 4 = .ok (.invokevirtual 41, 3) := by decide +kernel
theorem dL_site_7 : decode cL_site 7 = .ok (.i2l, 1) := by decide +kernel
theorem dL_site_8 : decode cL_site 8 = .ok (.lastore, 1) := by decide +kernel
theorem dL_site_9 : decode cL_site 9 = .ok (.goto 6, 3) := by decide +kernel
theorem dL_site_12 : decode cL_site 12 = .ok (.astore_n 3, 1) := by decide +kernel
theorem dL_site_13 : decode cL_site 13 = .ok (.iconst 1, 1) := by decide +kernel
theorem dL_site_14 : decode cL_site 14 = .ok (.ireturn, 1) := by decide +kernel
theorem dL_site_15 : decode cL_site 15 = .ok (.iconst 0, 1) := by decide +kernel
theorem dL_site_16 : decode cL_site 16 = .ok (.ireturn, 1) := by decide +kernel
set_option maxRecDepth 20000 in
theorem ggL_recovered_X11_recovered : GoodIn wsL_recovered wsX11_recovered := goodIn_ca (goodIn_ca (goodIn_r _ [7, 8, 9, 10, 11, 12, 13, 14, 15, 16, 17, 18, 19, 6, 20, 21, 22, 23, 24, 25, 26, 27, 28, 29, 30, 31, 32, 33, 34, 35, 36, 37, 38, 39, 40, 41, 42, 43, 44, 45, 46, 47, 48, 49, 50, 51, 52, 53, 54, 55, 56, 57, 58, 59, 60, 61, 62, 63, 64, 65, 66, 67, 68, 69, 70, 71, 72, 73, 74, 75, 76, 77, 78, 79, 80, 81, 82, 83, 84, 85, 86, 87, 88, 89, 90, 91, 92, 93, 94, 95, 96, 97, 98, 99, 100, 101, 102, 103, 104, 105, 106, 107, 108, 109, 110] (by decide +kernel) (by decide +kernel)) (goodIn_sub (fun _ h => List.mem_cons_of_mem _ (List.mem_append_left _ (List.mem_append_right _ h))) (by decide +kernel))) (goodIn_sub (fun _ h => List.mem_cons_of_mem _ (List.mem_append_right _ h)) (by decide +kernel))
set_option maxRecDepth 20000 in
theorem gL_recovered_X11_recovered : GoodIn wsL_recovered (wsV RL 44 RX11 yX11_recovered wsX11_recovered) := goodIn_app (goodIn_of _ (by decide +kernel)) ggL_recovered_X11_recovered
theorem dL_recovered_0 : decode cL_recovered 0 = .ok (.aload_n 3, 1) := by decide +kernel
theorem dL_recovered_1 : decode cL_recovered 1 = .ok (.iconst 0, 1) := by decide +kernel
theorem dL_recovered_2 : decode cL_recovered 2 = .ok (.aload_n 0, 1) := by decide +kernel
theorem dL_recovered_3 : decode cL_recovered 3 = .ok (.iload_n 1, 1) := by decide +kernel
theorem dL_recovered_4 : decode cL_recovered 4 = .ok (.iload_n 2, 1) := by decide +kernel
theorem dL_recovered_5 : decode cL_recovered 5 = .ok (.invokevirtual 44, 3) := by decide +kernel
theorem dL_recovered_8 : decode cL_recovered 8 = .ok (.i2l, 1) := by decide +kernel
theorem dL_recovered_9 : decode cL_recovered 9 = .ok (.lastore, 1) := by decide +kernel
theorem dL_recovered_10 : decode cL_recovered 10 = .ok (.goto 11, 3) := by decide +kernel
theorem dL_recovered_13 : decode cL_recovered 13 = .ok (.astore 4, 2) := by decide +kernel
theorem dL_recovered_15 : decode cL_recovered 15 = .ok (.iconst 1, 1) := by decide +kernel
theorem dL_recovered_16 : decode cL_recovered 16 = .ok (.ireturn, 1) := by decide +kernel
theorem dL_recovered_17 : decode cL_recovered 17 = .ok (.astore 4, 2) := by decide +kernel
theorem dL_recovered_19 : decode cL_recovered 19 = .ok (.iconst 2, 1) := by decide +kernel
theorem dL_recovered_20 : decode cL_recovered 20 = .ok (.ireturn, 1) := by decide +kernel
theorem dL_recovered_21 : decode cL_recovered 21 = .ok (.iconst 0, 1) := by decide +kernel
theorem dL_recovered_22 : decode cL_recovered 22 = .ok (.ireturn, 1) := by decide +kernel
set_option maxRecDepth 20000 in
theorem ggL_fate_X11_fate : GoodIn wsL_fate wsX11_fate := goodIn_ca (goodIn_r _ [6, 7, 8, 9, 10, 11, 12, 13, 14, 15, 5, 16, 17, 18, 19, 20, 21, 22, 23, 24, 25, 26, 27, 28, 29, 30, 31, 32, 33, 34, 35, 36, 37, 38, 39, 40, 41, 42, 43, 44, 45, 46, 47, 48, 49, 50, 51, 52, 53, 54, 55, 56, 57, 58, 59, 60, 61, 62, 63, 64, 65, 66, 67, 68, 69, 70, 71, 72, 73, 74, 75, 76, 77, 78, 79, 80, 81, 82, 83, 84, 85, 86, 87, 88, 89, 90, 91, 92, 93, 94, 95, 96, 97, 98, 99, 100, 101, 102, 103, 104, 105, 106, 107, 108, 109] (by decide +kernel) (by decide +kernel)) (goodIn_sub (fun _ h => List.mem_cons_of_mem _ (List.mem_append_right _ h)) (by decide +kernel))
set_option maxRecDepth 20000 in
theorem gL_fate_X11_fate : GoodIn wsL_fate (wsV RL 47 RX11 yX11_fate wsX11_fate) := goodIn_app (goodIn_of _ (by decide +kernel)) ggL_fate_X11_fate
theorem dL_fate_0 : decode cL_fate 0 = .ok (.aload_n 2, 1) := by decide +kernel
theorem dL_fate_1 : decode cL_fate 1 = .ok (.iconst 0, 1) := by decide +kernel
theorem dL_fate_2 : decode cL_fate 2 = .ok (.aload_n 0, 1) := by decide +kernel
theorem dL_fate_3 : decode cL_fate 3 = .ok (.iload_n 1, 1) := by decide +kernel
theorem dL_fate_4 : decode cL_fate 4 = .ok (.invokevirtual 47, 3) := by decide +kernel
theorem dL_fate_7 : decode cL_fate 7 = .ok (.i2l, 1) := by decide +kernel
theorem dL_fate_8 : decode cL_fate 8 = .ok (.lastore, 1) := by decide +kernel
theorem dL_fate_9 : decode cL_fate 9 = .ok (.goto 6, 3) := by decide +kernel
theorem dL_fate_12 : decode cL_fate 12 = .ok (.astore_n 3, 1) := by decide +kernel
theorem dL_fate_13 : decode cL_fate 13 = .ok (.iconst 1, 1) := by decide +kernel
theorem dL_fate_14 : decode cL_fate 14 = .ok (.ireturn, 1) := by decide +kernel
theorem dL_fate_15 : decode cL_fate 15 = .ok (.iconst 0, 1) := by decide +kernel
theorem dL_fate_16 : decode cL_fate 16 = .ok (.ireturn, 1) := by decide +kernel
set_option maxRecDepth 20000 in
theorem ggL_check_X11_check : GoodIn wsL_check wsX11_check := goodIn_ca (goodIn_r _ [6, 7, 8, 9, 10, 11, 12, 13, 14, 15, 16, 17, 18, 19, 20, 21, 22, 23, 24, 25, 26, 27, 28, 29, 30, 31, 32, 33, 34, 35, 36, 37, 38, 39, 40, 41, 42, 43, 44, 45, 46, 47, 48, 49, 50, 51, 52, 53, 54, 55, 56, 57, 58, 59, 60, 61, 62, 63, 64, 65, 66, 67, 68, 69, 70, 71, 72, 73, 74, 75, 76, 77, 78, 79, 80, 5, 81, 82, 83, 84, 85, 86, 87, 88, 89, 90, 91, 92, 93, 94, 95, 96, 97, 98, 99, 100, 101, 102, 103, 104, 105, 106, 107, 108, 109, 110, 111, 112, 113, 114, 115, 116, 117, 118, 119, 120, 121, 122, 123, 124, 125, 126, 127, 128, 129, 130, 131, 132, 133, 134, 135, 136, 137, 138, 139, 140, 141, 142, 143, 144, 145, 146, 147, 148, 149, 150, 151, 152, 153, 154, 155, 156, 157, 158, 159, 160, 161, 162, 163, 164, 165, 166, 167, 168, 169, 170, 171, 172, 173, 174, 175, 176, 177, 178, 179, 180, 181, 182, 183, 184, 185, 186, 187, 188, 189, 190, 191, 192, 193, 194, 195, 196, 197, 198, 199, 200, 201, 202, 203, 204, 205, 206, 207, 208, 209, 210, 211, 212, 213, 214, 215, 216, 217, 218, 219, 220, 221, 222, 223, 224, 225, 226, 227, 228, 229, 230, 231, 232, 233, 234, 235, 236, 237, 238, 239, 240, 241, 242, 243, 244, 245, 246, 247, 248, 249, 250, 251, 252, 253, 254, 255, 256, 257, 258, 259, 260, 261, 262, 263, 264, 265, 266, 267, 268, 269, 270, 271, 272, 273, 274, 275, 276, 277, 278, 279, 280, 281, 282, 283, 284, 285, 286, 287, 288, 289, 290, 291, 292, 293, 294, 295, 296, 297, 298, 299, 300, 301, 302, 303, 304, 305, 306, 307, 308, 309, 310, 311, 312, 313, 314, 315, 316, 317, 318, 319, 320, 321, 322, 323] (by decide +kernel) (by decide +kernel)) (goodIn_sub (fun _ h => List.mem_cons_of_mem _ (List.mem_append_right _ h)) (by decide +kernel))
set_option maxRecDepth 20000 in
theorem gL_check_X11_check : GoodIn wsL_check (wsV RL 50 RX11 yX11_check wsX11_check) := goodIn_app (goodIn_of _ (by decide +kernel)) ggL_check_X11_check
theorem dL_check_0 : decode cL_check 0 = .ok (.aload_n 2, 1) := by decide +kernel
theorem dL_check_1 : decode cL_check 1 = .ok (.iconst 0, 1) := by decide +kernel
theorem dL_check_2 : decode cL_check 2 = .ok (.aload_n 0, 1) := by decide +kernel
theorem dL_check_3 : decode cL_check 3 = .ok (.iload_n 1, 1) := by decide +kernel
theorem dL_check_4 : decode cL_check 4 = .ok (.invokevirtual 50, 3) := by decide +kernel
theorem dL_check_7 : decode cL_check 7 = .ok (.i2l, 1) := by decide +kernel
theorem dL_check_8 : decode cL_check 8 = .ok (.lastore, 1) := by decide +kernel
theorem dL_check_9 : decode cL_check 9 = .ok (.goto 6, 3) := by decide +kernel
theorem dL_check_12 : decode cL_check 12 = .ok (.astore_n 3, 1) := by decide +kernel
theorem dL_check_13 : decode cL_check 13 = .ok (.iconst 1, 1) := by decide +kernel
theorem dL_check_14 : decode cL_check 14 = .ok (.ireturn, 1) := by decide +kernel
theorem dL_check_15 : decode cL_check 15 = .ok (.iconst 0, 1) := by decide +kernel
theorem dL_check_16 : decode cL_check 16 = .ok (.ireturn, 1) := by decide +kernel
set_option maxRecDepth 20000 in
theorem ggL_least_X11_least : GoodIn wsL_least wsX11_least := goodIn_ca (goodIn_r _ [6, 7, 8, 9, 10, 11, 12, 13, 14, 15, 16, 17, 18, 19, 20, 21, 22, 23, 24, 25, 26, 27, 28, 29, 30, 31, 32, 33, 34, 35, 36, 37, 38, 39, 40, 41, 42, 43, 44, 45, 46, 47, 48, 49, 50, 51, 52, 53, 5, 54, 55, 56, 57, 58, 59, 60, 61, 62, 63, 64, 65, 66, 67, 68, 69, 70, 71, 72, 73, 74, 75, 76, 77, 78, 79, 80, 81, 82, 83, 84, 85, 86, 87, 88, 89, 90, 91, 92, 93, 94, 95, 96, 97, 98, 99, 100, 101, 102, 103, 104, 105, 106, 107, 108, 109, 110, 111, 112, 113, 114, 115, 116, 117, 118, 119, 120, 121, 122, 123, 124, 125, 126, 127, 128, 129, 130, 131, 132, 133, 134, 135, 136, 137, 138, 139, 140, 141, 142, 143, 144, 145, 146, 147, 148, 149, 150, 151, 152, 153, 154, 155, 156, 157, 158, 159, 160, 161, 162, 163, 164, 165, 166, 167, 168, 169, 170, 171, 172, 173, 174, 175, 176, 177, 178, 179, 180, 181, 182, 183, 184, 185, 186, 187, 188, 189, 190, 191, 192, 193, 194, 195, 196, 197, 198, 199, 200, 201, 202, 203, 204, 205, 206, 207, 208, 209, 210, 211, 212, 213, 214, 215, 216, 217, 218, 219, 220, 221, 222, 223, 224, 225, 226, 227, 228, 229, 230, 231, 232, 233, 234, 235, 236, 237, 238, 239, 240, 241, 242, 243, 244, 245, 246, 247, 248, 249, 250, 251, 252, 253, 254, 255, 256, 257, 258, 259, 260, 261, 262, 263, 264, 265, 266, 267, 268, 269, 270, 271, 272, 273, 274, 275, 276, 277, 278, 279, 280, 281, 282, 283, 284, 285, 286, 287, 288, 289, 290, 291, 292, 293, 294, 295, 296, 297, 298, 299, 300, 301, 302, 303, 304, 305, 306, 307, 308, 309, 310, 311, 312, 313, 314, 315, 316, 317, 318, 319, 320, 321, 322, 323, 324, 325, 326, 327, 328, 329, 330, 331, 332, 333, 334, 335] (by decide +kernel) (by decide +kernel)) (goodIn_sub (fun _ h => List.mem_cons_of_mem _ (List.mem_append_right _ h)) (by decide +kernel))
set_option maxRecDepth 20000 in
theorem gL_least_X11_least : GoodIn wsL_least (wsV RL 53 RX11 yX11_least wsX11_least) := goodIn_app (goodIn_of _ (by decide +kernel)) ggL_least_X11_least
theorem dL_least_0 : decode cL_least 0 = .ok (.aload_n 2, 1) := by decide +kernel
theorem dL_least_1 : decode cL_least 1 = .ok (.iconst 0, 1) := by decide +kernel
theorem dL_least_2 : decode cL_least 2 = .ok (.aload_n 0, 1) := by decide +kernel
theorem dL_least_3 : decode cL_least 3 = .ok (.iload_n 1, 1) := by decide +kernel
theorem dL_least_4 : decode cL_least 4 = .ok (.invokevirtual 53, 3) := by decide +kernel
theorem dL_least_7 : decode cL_least 7 = .ok (.i2l, 1) := by decide +kernel
theorem dL_least_8 : decode cL_least 8 = .ok (.lastore, 1) := by decide +kernel
theorem dL_least_9 : decode cL_least 9 = .ok (.goto 6, 3) := by decide +kernel
theorem dL_least_12 : decode cL_least 12 = .ok (.astore_n 3, 1) := by decide +kernel
theorem dL_least_13 : decode cL_least 13 = .ok (.iconst 1, 1) := by decide +kernel
theorem dL_least_14 : decode cL_least 14 = .ok (.ireturn, 1) := by decide +kernel
theorem dL_least_15 : decode cL_least 15 = .ok (.iconst 0, 1) := by decide +kernel
theorem dL_least_16 : decode cL_least 16 = .ok (.ireturn, 1) := by decide +kernel
set_option maxRecDepth 20000 in
theorem ggL_chance_X11_chance : GoodIn wsL_chance wsX11_chance := goodIn_ca (goodIn_r _ [6, 7, 8, 9, 10, 11, 12, 13, 14, 15, 16, 17, 18, 19, 20, 21, 22, 23, 24, 25, 26, 27, 28, 29, 30, 31, 32, 33, 34, 35, 36, 37, 38, 39, 40, 41, 42, 43, 44, 45, 46, 47, 48, 5, 49, 50, 51, 52, 53, 54, 55, 56, 57, 58, 59, 60, 61, 62, 63, 64, 65, 66, 67, 68, 69, 70, 71, 72, 73, 74, 75, 76, 77, 78, 79, 80, 81, 82, 83, 84, 85, 86, 87, 88, 89, 90, 91, 92, 93, 94, 95, 96, 97, 98, 99, 100, 101, 102, 103, 104, 105, 106, 107, 108, 109, 110, 111, 112] (by decide +kernel) (by decide +kernel)) (goodIn_sub (fun _ h => List.mem_cons_of_mem _ (List.mem_append_right _ h)) (by decide +kernel))
set_option maxRecDepth 20000 in
theorem gL_chance_X11_chance : GoodIn wsL_chance (wsV RL 56 RX11 yX11_chance wsX11_chance) := goodIn_app (goodIn_of _ (by decide +kernel)) ggL_chance_X11_chance
theorem dL_chance_0 : decode cL_chance 0 = .ok (.aload_n 2, 1) := by decide +kernel
theorem dL_chance_1 : decode cL_chance 1 = .ok (.iconst 0, 1) := by decide +kernel
theorem dL_chance_2 : decode cL_chance 2 = .ok (.aload_n 0, 1) := by decide +kernel
theorem dL_chance_3 : decode cL_chance 3 = .ok (.iload_n 1, 1) := by decide +kernel
theorem dL_chance_4 : decode cL_chance 4 = .ok (.invokevirtual 56, 3) := by decide +kernel
theorem dL_chance_7 : decode cL_chance 7 = .ok (.i2l, 1) := by decide +kernel
theorem dL_chance_8 : decode cL_chance 8 = .ok (.lastore, 1) := by decide +kernel
theorem dL_chance_9 : decode cL_chance 9 = .ok (.goto 6, 3) := by decide +kernel
theorem dL_chance_12 : decode cL_chance 12 = .ok (.astore_n 3, 1) := by decide +kernel
theorem dL_chance_13 : decode cL_chance 13 = .ok (.iconst 1, 1) := by decide +kernel
theorem dL_chance_14 : decode cL_chance 14 = .ok (.ireturn, 1) := by decide +kernel
theorem dL_chance_15 : decode cL_chance 15 = .ok (.iconst 0, 1) := by decide +kernel
theorem dL_chance_16 : decode cL_chance 16 = .ok (.ireturn, 1) := by decide +kernel
set_option maxRecDepth 20000 in
theorem ggL_explained_X11_explained : GoodIn wsL_explained wsX11_explained := goodIn_ca (goodIn_r _ [6, 7, 8, 9, 10, 11, 12, 13, 14, 15, 16, 17, 18, 19, 20, 21, 22, 23, 24, 25, 26, 27, 28, 29, 30, 31, 32, 33, 34, 35, 36, 37, 38, 39, 40, 41, 42, 43, 44, 45, 46, 47, 48, 49, 50, 51, 52, 53, 54, 55, 56, 57, 58, 59, 60, 61, 62, 63, 64, 65, 66, 67, 68, 69, 70, 71, 72, 73, 74, 75, 76, 77, 78, 79, 80, 81, 82, 83, 84, 85, 86, 87, 88, 89, 90, 91, 92, 93, 94] (by decide +kernel) (by decide +kernel)) (goodIn_sub (fun _ h => List.mem_cons_of_mem _ (List.mem_append_right _ h)) (by decide +kernel))
set_option maxRecDepth 20000 in
theorem gL_explained_X11_explained : GoodIn wsL_explained (wsV RL 59 RX11 yX11_explained wsX11_explained) := goodIn_app (goodIn_of _ (by decide +kernel)) ggL_explained_X11_explained
theorem dL_explained_0 : decode cL_explained 0 = .ok (.aload_n 2, 1) := by decide +kernel
theorem dL_explained_1 : decode cL_explained 1 = .ok (.iconst 0, 1) := by decide +kernel
theorem dL_explained_2 : decode cL_explained 2 = .ok (.aload_n 0, 1) := by decide +kernel
theorem dL_explained_3 : decode cL_explained 3 = .ok (.iload_n 1, 1) := by decide +kernel
theorem dL_explained_4 : decode cL_explained 4 = .ok (.invokevirtual 59, 3) := by decide +kernel
theorem dL_explained_7 : decode cL_explained 7 = .ok (.i2l, 1) := by decide +kernel
theorem dL_explained_8 : decode cL_explained 8 = .ok (.lastore, 1) := by decide +kernel
theorem dL_explained_9 : decode cL_explained 9 = .ok (.goto 6, 3) := by decide +kernel
theorem dL_explained_12 : decode cL_explained 12 = .ok (.astore_n 3, 1) := by decide +kernel
theorem dL_explained_13 : decode cL_explained 13 = .ok (.iconst 1, 1) := by decide +kernel
theorem dL_explained_14 : decode cL_explained 14 = .ok (.ireturn, 1) := by decide +kernel
theorem dL_explained_15 : decode cL_explained 15 = .ok (.iconst 0, 1) := by decide +kernel
theorem dL_explained_16 : decode cL_explained 16 = .ok (.ireturn, 1) := by decide +kernel
set_option maxRecDepth 20000 in
theorem ggL_look_X11_look : GoodIn wsL_look wsX11_look := goodIn_ca (goodIn_r _ [6, 7, 8, 9, 10, 11, 12, 13, 14, 15, 16, 17, 18, 19, 20, 21, 22, 23, 24, 25, 26, 27, 28, 29, 30, 31, 32, 33, 34, 35, 36, 37, 38, 39, 40, 41, 42, 43, 44, 45, 46, 47, 48, 49, 50, 51, 52, 53, 54, 55, 56, 57, 58, 59, 60, 61, 62, 63, 64, 65, 66, 67, 68, 69, 70, 71, 72, 73, 74, 75, 76, 77, 78, 79, 80, 81, 82, 83, 84, 85, 86, 87, 88, 89, 90, 91, 92, 93, 94, 95, 96, 97] (by decide +kernel) (by decide +kernel)) (goodIn_sub (fun _ h => List.mem_cons_of_mem _ (List.mem_append_right _ h)) (by decide +kernel))
set_option maxRecDepth 20000 in
theorem gL_look_X11_look : GoodIn wsL_look (wsV RL 62 RX11 yX11_look wsX11_look) := goodIn_app (goodIn_of _ (by decide +kernel)) ggL_look_X11_look
theorem dL_look_0 : decode cL_look 0 = .ok (.aload_n 2, 1) := by decide +kernel
theorem dL_look_1 : decode cL_look 1 = .ok (.iconst 0, 1) := by decide +kernel
theorem dL_look_2 : decode cL_look 2 = .ok (.aload_n 0, 1) := by decide +kernel
theorem dL_look_3 : decode cL_look 3 = .ok (.iload_n 1, 1) := by decide +kernel
theorem dL_look_4 : decode cL_look 4 = .ok (.invokevirtual 62, 3) := by decide +kernel
theorem dL_look_7 : decode cL_look 7 = .ok (.i2l, 1) := by decide +kernel
theorem dL_look_8 : decode cL_look 8 = .ok (.lastore, 1) := by decide +kernel
theorem dL_look_9 : decode cL_look 9 = .ok (.goto 6, 3) := by decide +kernel
theorem dL_look_12 : decode cL_look 12 = .ok (.astore_n 3, 1) := by decide +kernel
theorem dL_look_13 : decode cL_look 13 = .ok (.iconst 1, 1) := by decide +kernel
theorem dL_look_14 : decode cL_look 14 = .ok (.ireturn, 1) := by decide +kernel
theorem dL_look_15 : decode cL_look 15 = .ok (.iconst 0, 1) := by decide +kernel
theorem dL_look_16 : decode cL_look 16 = .ok (.ireturn, 1) := by decide +kernel
set_option maxRecDepth 20000 in
theorem ggL_years_X11_years : GoodIn wsL_years wsX11_years := goodIn_ca (goodIn_ca (goodIn_r _ [7, 8, 9, 10, 11, 12, 13, 14, 15, 16, 17, 18, 19, 20, 21, 22, 23, 24, 25, 26, 27, 28, 29, 30, 31, 32, 33, 34, 35, 36, 37, 38, 39, 40, 41, 42, 43, 44, 45, 46, 47, 48, 49, 50, 51, 52, 53, 54, 55, 56, 57, 58, 59, 60, 61, 62, 63, 64, 65, 66, 67, 68, 69, 70, 71, 72, 73, 74, 75, 76, 77, 78, 79, 80, 81, 82, 83, 84, 85, 86, 87, 88, 89, 90, 91, 92, 93, 94, 95, 96, 97, 98, 99, 100, 101, 102, 103, 104, 6, 105, 106, 107, 108, 109, 110, 111, 112, 113, 114, 115, 116, 117, 118, 119, 120, 121, 122, 123, 124, 125, 126, 127, 128, 129, 130, 131, 132, 133, 134, 135, 136, 137, 138, 139, 140, 141, 142, 143, 144, 145, 146, 147, 148, 149, 150, 151, 152, 153, 154, 155, 156, 157, 158, 159, 160, 161, 162, 163, 164, 165, 166, 167, 168, 169, 170, 171, 172, 173, 174, 175, 176, 177, 178, 179, 180, 181, 182, 183, 184, 185, 186, 187, 188, 189, 190, 191, 192, 193, 194, 195, 196, 197, 198, 199, 200, 201, 202, 203, 204, 205, 206, 207, 208, 209, 210, 211, 212, 213, 214, 215, 216, 217, 218, 219, 220, 221, 222, 223, 224, 225, 226, 227, 228, 229, 230, 231, 232, 233, 234, 235, 236, 237, 238, 239, 240, 241, 242, 243, 244, 245, 246, 247, 248, 249, 250, 251, 252, 253, 254, 255, 256, 257, 258, 259, 260, 261, 262, 263, 264, 265, 266, 267, 268, 269, 270, 271, 272, 273, 274, 275, 276, 277, 278, 279, 280, 281, 282, 283, 284, 285, 286, 287, 288, 289, 290, 291, 292, 293, 294, 295, 296, 297, 298, 299, 300, 301, 302, 303, 304, 305, 306, 307, 308, 309, 310, 311, 312, 313, 314, 315, 316, 317, 318, 319, 320, 321, 322, 323, 324, 325, 326, 327, 328, 329, 330, 331, 332, 333, 334, 335, 336, 337, 338, 339, 340, 341, 342, 343, 344, 345, 346, 347, 348, 349, 350, 351, 352] (by decide +kernel) (by decide +kernel)) (goodIn_sub (fun _ h => List.mem_cons_of_mem _ (List.mem_append_left _ (List.mem_append_right _ h))) (by decide +kernel))) (goodIn_sub (fun _ h => List.mem_cons_of_mem _ (List.mem_append_right _ h)) (by decide +kernel))
set_option maxRecDepth 20000 in
theorem gL_years_X11_years : GoodIn wsL_years (wsV RL 65 RX11 yX11_years wsX11_years) := goodIn_app (goodIn_of _ (by decide +kernel)) ggL_years_X11_years
theorem dL_years_0 : decode cL_years 0 = .ok (.aload 4, 2) := by decide +kernel
theorem dL_years_2 : decode cL_years 2 = .ok (.iconst 0, 1) := by decide +kernel
theorem dL_years_3 : decode cL_years 3 = .ok (.aload_n 0, 1) := by decide +kernel
theorem dL_years_4 : decode cL_years 4 = .ok (.iload_n 1, 1) := by decide +kernel
theorem dL_years_5 : decode cL_years 5 = .ok (.iload_n 2, 1) := by decide +kernel
theorem dL_years_6 : decode cL_years 6 = .ok (.iload_n 3, 1) := by decide +kernel
theorem dL_years_7 : decode cL_years 7 = .ok (.invokevirtual 65, 3) := by decide +kernel
theorem dL_years_10 : decode cL_years 10 = .ok (.i2l, 1) := by decide +kernel
theorem dL_years_11 : decode cL_years 11 = .ok (.lastore, 1) := by decide +kernel
theorem dL_years_12 : decode cL_years 12 = .ok (.goto 11, 3) := by decide +kernel
theorem dL_years_15 : decode cL_years 15 = .ok (.astore 5, 2) := by decide +kernel
theorem dL_years_17 : decode cL_years 17 = .ok (.iconst 1, 1) := by decide +kernel
theorem dL_years_18 : decode cL_years 18 = .ok (.ireturn, 1) := by decide +kernel
theorem dL_years_19 : decode cL_years 19 = .ok (.astore 5, 2) := by decide +kernel
theorem dL_years_21 : decode cL_years 21 = .ok (.iconst 2, 1) := by decide +kernel
theorem dL_years_22 : decode cL_years 22 = .ok (.ireturn, 1) := by decide +kernel
theorem dL_years_23 : decode cL_years 23 = .ok (.iconst 0, 1) := by decide +kernel
theorem dL_years_24 : decode cL_years 24 = .ok (.ireturn, 1) := by decide +kernel
set_option maxRecDepth 20000 in
theorem ggL_law_X11_init : GoodIn wsL_law wsX11_init := goodIn_r _ [9, 10, 11, 12, 13, 14, 15, 16, 17, 18, 19, 20, 21, 22, 23, 24, 25, 26, 27, 28, 29, 30, 31, 32, 33, 34, 35, 36, 37, 38, 39, 40, 41, 42, 43, 44, 45, 46, 47, 48, 49, 50, 51, 52, 53, 54, 55, 56, 57, 58, 59, 60, 61, 62, 63, 64, 65, 66, 67, 68, 69, 70, 71, 72, 73, 74, 75, 76, 77, 78, 79, 80, 81, 82, 83, 84, 85, 86, 87, 88, 89, 90, 91, 92, 93, 94, 95, 96, 97, 98, 99, 100, 101, 102, 103, 104, 105, 106, 107, 108, 109, 110, 111, 112, 113, 114, 115, 116, 117, 118, 119, 120, 121, 122, 123, 124, 125, 126, 127, 128, 129, 130, 131, 132, 133, 134, 135, 136, 137, 138, 139, 140, 141, 142, 143, 144, 145, 146, 147, 148, 149, 150, 151, 152, 153, 154, 155, 156, 157, 158, 159, 160, 161, 162, 163, 164, 165, 166, 167, 168, 1393, 1394, 1395, 1396, 1397, 1398, 1399, 1400, 1401, 1402, 1403, 1404, 1405, 1457, 1458, 1459, 1460, 1461, 1462, 1463, 1464, 1465, 1466, 1467, 1468, 1469, 1470, 1471, 1472, 1473, 1474, 1475, 1476, 1477, 1478, 1479, 1480, 1481, 1482, 1483, 1484, 1485, 1486, 1487, 1488, 1489, 1490, 1491, 1492, 1493, 1494, 1495, 1496, 1497, 1498, 1499, 1500, 1501, 1502, 1503, 1504, 1505, 1506, 1507, 1508, 1509, 1510, 1511, 1512, 1513, 1514, 1515, 1516, 1517, 1518, 1519, 1520, 1521] (by decide +kernel) (by decide +kernel)
set_option maxRecDepth 20000 in
theorem gL_law_X11_init : GoodIn wsL_law (wsX11_init) := ggL_law_X11_init
set_option maxRecDepth 20000 in
theorem ggL_law_X12_init : GoodIn wsL_law wsX12_init := goodIn_r _ [171, 172, 11, 12, 173, 13, 174, 175, 176, 177, 178, 179, 180, 181, 182, 183, 184, 185, 186, 187, 188, 189, 190, 191, 192, 5, 193, 1406, 1407, 1408, 1409, 1410, 1411, 1412, 1413, 1414, 1415, 1416, 1417, 1418, 1419, 1420, 1421, 1422, 1423, 1424, 1425, 1426, 1427, 1428, 1429, 1430, 1431, 1432, 1433, 1434, 1435, 1436, 1437, 1438, 1439, 1440, 1441, 1442, 1443, 1444, 1445, 1446, 1447, 1448, 1449, 1450, 1451, 1452, 1453, 1454, 1455, 1456] (by decide +kernel) (by decide +kernel)
set_option maxRecDepth 20000 in
theorem gL_law_X12_init : GoodIn wsL_law (wsX12_init) := ggL_law_X12_init
set_option maxRecDepth 20000 in
theorem ggL_law_X11_feed : GoodIn wsL_law wsX11_feed := goodIn_r _ [197, 15, 198, 199, 200, 2, 201, 14, 1393, 1394, 1395, 1396, 1397, 1398, 1399, 1400, 1401, 1402, 1403, 1404, 1405] (by decide +kernel) (by decide +kernel)
set_option maxRecDepth 20000 in
theorem gL_law_X11_feed : GoodIn wsL_law (wsV RL 72 RX11 yX11_feed wsX11_feed) := goodIn_app (goodIn_of _ (by decide +kernel)) ggL_law_X11_feed
set_option maxRecDepth 20000 in
theorem ggL_law_X12_feed : GoodIn wsL_law wsX12_feed := goodIn_r _ [205, 206, 207, 178, 1406, 1407, 1408, 1409, 1410, 1411, 1412, 1413, 1414, 1415, 1416, 1417, 1418, 1419, 1420, 1421, 1422, 1423, 1424, 1425, 1426, 1427, 1428, 1429, 1430, 1431, 1432, 1433, 1434, 1435, 1436, 1437, 1438, 1439, 1440, 1441, 1442, 1443, 1444, 1445, 1446, 1447, 1448, 1449, 1450, 1451, 1452, 1453, 1454, 1455, 1456] (by decide +kernel) (by decide +kernel)
set_option maxRecDepth 20000 in
theorem gL_law_X12_feed : GoodIn wsL_law (wsV RL 76 RX12 yX12_feed wsX12_feed) := goodIn_app (goodIn_of _ (by decide +kernel)) ggL_law_X12_feed
set_option maxRecDepth 20000 in
theorem ggL_law_L_heap : GoodIn wsL_law wsL_heap := goodIn_ca (goodIn_r _ [211, 212, 213, 214, 215, 2, 216, 217, 218, 15, 50, 14, 219, 16, 20, 220, 22, 221, 222, 223, 224, 49, 225, 160, 226, 227, 228, 229, 161, 162, 163, 156, 159, 230, 231, 232, 233, 234, 235, 236, 237, 166, 167, 168, 238, 239, 240, 241, 242, 243, 244, 245, 164, 246, 247, 248, 249, 250, 251, 252, 253, 254, 255, 256, 257, 258, 259, 260, 261, 262, 263, 264, 265, 266, 267, 268, 269, 270, 271, 272, 273, 274, 275, 276, 277, 278, 279, 280, 281, 282, 283, 284, 285, 286, 287, 288, 289, 290, 291, 292, 293, 294, 295, 296, 297, 298, 299, 300, 301, 302, 303, 304, 305, 306, 307, 308, 309, 310, 311, 312, 313, 314, 315, 316, 317, 318, 319, 320, 321, 322, 323, 324, 325, 165, 326, 327, 328, 329, 330, 331, 332, 333, 334, 335, 336, 337, 338, 339, 340, 341, 342, 343, 344, 345, 346, 347, 348, 349, 350, 351, 352, 353, 354, 355, 356, 357, 358, 359, 360, 361, 56, 362, 75, 363, 364, 365, 366, 76, 367, 368, 369, 19, 370, 57, 61, 371, 63, 372, 373, 374, 375, 71, 72, 73, 74, 77, 78, 79, 80, 81, 82, 376, 377, 378, 70, 379, 86, 380, 87, 88, 89, 1393, 1394, 1395, 1396, 1397, 1398, 1399, 1400, 1401, 1402, 1403, 1404, 1405, 1492, 1493, 1494, 1495, 1496, 1497, 1498, 1499, 1500, 1501, 1502, 1457, 1458, 1459, 1460, 1461, 1503, 1504, 1505, 1506, 1507, 1508, 1509, 1510, 1511, 1512, 1513, 1514, 1515, 1516, 1517, 1518, 1519, 1520, 1521] (by decide +kernel) (by decide +kernel)) (goodIn_sub (fun _ h => List.mem_append_left _ (List.mem_append_right _ h)) (by decide +kernel))
set_option maxRecDepth 20000 in
theorem gL_law_L_heap : GoodIn wsL_law (va_wsS RL 77 yL_heap wsL_heap) := goodIn_app (goodIn_of _ (by decide +kernel)) ggL_law_L_heap
set_option maxRecDepth 20000 in
theorem ggL_law_X12_heap : GoodIn wsL_law wsX12_heap := goodIn_r _ [384, 206, 207, 187, 385, 386, 387, 388, 389, 390, 391, 392, 393, 179, 394, 177, 395, 174, 188, 396, 397, 398, 399, 400, 401, 402, 5, 403, 404, 405, 406, 407, 408, 409, 410, 411, 412, 413, 414, 178, 415, 416, 417, 418, 419, 420, 421, 422, 423, 424, 425, 426, 427, 428, 429, 430, 431, 432, 433, 434, 435, 436, 437, 438, 439, 440, 441, 442, 443, 444, 445, 446, 447, 448, 449, 450, 451, 452, 453, 454, 455, 456, 457, 458, 459, 460, 461, 462, 463, 464, 465, 466, 467, 468, 469, 470, 471, 190, 191, 192, 193, 1406, 1407, 1408, 1409, 1410, 1411, 1412, 1413, 1414, 1415, 1416, 1417, 1418, 1419, 1420, 1421, 1422, 1423, 1424, 1425, 1426, 1427, 1428, 1429, 1430, 1431, 1432, 1433, 1434, 1435, 1436, 1437, 1438, 1439, 1440, 1441, 1442, 1443, 1444, 1445, 1446, 1447, 1448, 1449, 1450, 1451, 1452, 1453, 1454, 1455, 1456] (by decide +kernel) (by decide +kernel)
set_option maxRecDepth 20000 in
theorem gL_law_X12_heap : GoodIn wsL_law (wsV RL 82 RX12 yX12_heap wsX12_heap) := goodIn_app (goodIn_of _ (by decide +kernel)) ggL_law_X12_heap
set_option maxRecDepth 20000 in
theorem ggL_law_X12_thrown : GoodIn wsL_law wsX12_thrown := goodIn_r _ [475, 206, 1406, 1407, 1408, 1409, 1410, 1411, 1412, 1413, 1414, 1415, 1416, 1417, 1418, 1419, 1420, 1421, 1422, 1423, 1424, 1425, 1426, 1427, 1428, 1429, 1430, 1431, 1432, 1433, 1434, 1435, 1436, 1437, 1438, 1439, 1440, 1441, 1442, 1443, 1444, 1445, 1446, 1447, 1448, 1449, 1450, 1451, 1452, 1453, 1454, 1455, 1456] (by decide +kernel) (by decide +kernel)
set_option maxRecDepth 20000 in
theorem gL_law_X12_thrown : GoodIn wsL_law (wsV RL 83 RX12 yX12_thrown wsX12_thrown) := goodIn_app (goodIn_of _ (by decide +kernel)) ggL_law_X12_thrown
set_option maxRecDepth 20000 in
theorem ggL_law_X11_fault : GoodIn wsL_law wsX11_fault := goodIn_r _ [479, 16, 1393, 1394, 1395, 1396, 1397, 1398, 1399, 1400, 1401, 1402, 1403, 1404, 1405] (by decide +kernel) (by decide +kernel)
set_option maxRecDepth 20000 in
theorem gL_law_X11_fault : GoodIn wsL_law (wsV RL 87 RX11 yX11_fault wsX11_fault) := goodIn_app (goodIn_of _ (by decide +kernel)) ggL_law_X11_fault
set_option maxRecDepth 20000 in
theorem ggL_law_X12_fault : GoodIn wsL_law wsX12_fault := goodIn_r _ [483, 206, 179, 1406, 1407, 1408, 1409, 1410, 1411, 1412, 1413, 1414, 1415, 1416, 1417, 1418, 1419, 1420, 1421, 1422, 1423, 1424, 1425, 1426, 1427, 1428, 1429, 1430, 1431, 1432, 1433, 1434, 1435, 1436, 1437, 1438, 1439, 1440, 1441, 1442, 1443, 1444, 1445, 1446, 1447, 1448, 1449, 1450, 1451, 1452, 1453, 1454, 1455, 1456] (by decide +kernel) (by decide +kernel)
set_option maxRecDepth 20000 in
theorem gL_law_X12_fault : GoodIn wsL_law (wsV RL 90 RX12 yX12_fault wsX12_fault) := goodIn_app (goodIn_of _ (by decide +kernel)) ggL_law_X12_fault
set_option maxRecDepth 20000 in
theorem ggL_law_L_count : GoodIn wsL_law wsL_count := goodIn_ca (goodIn_r _ [486, 487, 488, 489, 490, 2, 491, 492, 493, 20, 494, 495, 496, 497, 498, 499, 500, 501, 502, 15, 503, 220, 504, 505, 506, 56, 507, 74, 73, 508, 509, 510, 70, 511, 88, 1393, 1394, 1395, 1396, 1397, 1398, 1399, 1400, 1401, 1402, 1403, 1404, 1405, 1457, 1458, 1459, 1460, 1461, 1503, 1504, 1505, 1506, 1507, 1508, 1509, 1510, 1511, 1512, 1513, 1514, 1515, 1516, 1517, 1518, 1519, 1520, 1521] (by decide +kernel) (by decide +kernel)) (goodIn_sub (fun _ h => List.mem_append_right _ h) (by decide +kernel))
set_option maxRecDepth 20000 in
theorem gL_law_L_count : GoodIn wsL_law (va_wsS RL 91 yL_count wsL_count) := goodIn_app (goodIn_of _ (by decide +kernel)) ggL_law_L_count
set_option maxRecDepth 20000 in
theorem ggL_law_X12_count : GoodIn wsL_law wsX12_count := goodIn_r _ [515, 206, 174, 395, 399, 397, 207, 177, 439, 440, 5, 441, 400, 401, 402, 403, 516, 517, 518, 519, 1406, 1407, 1408, 1409, 1410, 1411, 1412, 1413, 1414, 1415, 1416, 1417, 1418, 1419, 1420, 1421, 1422, 1423, 1424, 1425, 1426, 1427, 1428, 1429, 1430, 1431, 1432, 1433, 1434, 1435, 1436, 1437, 1438, 1439, 1440, 1441, 1442, 1443, 1444, 1445, 1446, 1447, 1448, 1449, 1450, 1451, 1452, 1453, 1454, 1455, 1456] (by decide +kernel) (by decide +kernel)
set_option maxRecDepth 20000 in
theorem gL_law_X12_count : GoodIn wsL_law (wsV RL 93 RX12 yX12_count wsX12_count) := goodIn_app (goodIn_of _ (by decide +kernel)) ggL_law_X12_count
set_option maxRecDepth 20000 in
theorem ggL_law_L_word : GoodIn wsL_law wsL_word := goodIn_ca (goodIn_r _ [522, 487, 523, 524, 525, 2, 526, 492, 493, 20, 494, 499, 527, 528, 529, 530, 531, 532, 533, 70, 534, 88, 87, 86, 1393, 1394, 1395, 1396, 1397, 1398, 1399, 1400, 1401, 1402, 1403, 1404, 1405, 1457, 1458, 1459, 1460, 1461, 1503, 1504, 1505, 1506, 1507, 1508, 1509, 1510, 1511, 1512, 1513, 1514, 1518, 1519, 1520, 1521] (by decide +kernel) (by decide +kernel)) (goodIn_sub (fun _ h => List.mem_append_right _ h) (by decide +kernel))
set_option maxRecDepth 20000 in
theorem gL_law_L_word : GoodIn wsL_law (va_wsS RL 94 yL_word wsL_word) := goodIn_app (goodIn_of _ (by decide +kernel)) ggL_law_L_word
set_option maxRecDepth 20000 in
theorem ggL_law_X12_word : GoodIn wsL_law wsX12_word := goodIn_r _ [538, 206, 174, 539, 540, 541, 5, 542, 439, 440, 441, 400, 401, 402, 403, 543, 544, 545, 546, 1406, 1407, 1408, 1409, 1410, 1411, 1412, 1413, 1414, 1415, 1416, 1417, 1418, 1419, 1420, 1421, 1422, 1423, 1424, 1425, 1426, 1427, 1428, 1429, 1430, 1431, 1432, 1433, 1434, 1435, 1436, 1437, 1438, 1439, 1440, 1441, 1442, 1443, 1444, 1445, 1446, 1447, 1448, 1449, 1450, 1451, 1452, 1453, 1454, 1455, 1456] (by decide +kernel) (by decide +kernel)
set_option maxRecDepth 20000 in
theorem gL_law_X12_word : GoodIn wsL_law (wsV RL 97 RX12 yX12_word wsX12_word) := goodIn_app (goodIn_of _ (by decide +kernel)) ggL_law_X12_word
set_option maxRecDepth 20000 in
theorem ggL_law_L_line : GoodIn wsL_law wsL_line := goodIn_ca (goodIn_r _ [549, 487, 550, 551, 552, 2, 553, 492, 493, 20, 494, 499, 554, 555, 556, 557, 558, 559, 1393, 1394, 1395, 1396, 1397, 1398, 1399, 1400, 1401, 1402, 1403, 1404, 1405, 1457, 1458, 1459, 1460, 1461, 1503, 1504, 1505, 1506, 1507, 1508, 1509, 1510, 1511, 1512, 1513, 1514, 1518, 1519, 1520, 1521] (by decide +kernel) (by decide +kernel)) (goodIn_sub (fun _ h => List.mem_append_right _ h) (by decide +kernel))
set_option maxRecDepth 20000 in
theorem gL_law_L_line : GoodIn wsL_law (va_wsS RL 98 yL_line wsL_line) := goodIn_app (goodIn_of _ (by decide +kernel)) ggL_law_L_line
set_option maxRecDepth 20000 in
theorem ggL_law_X12_line : GoodIn wsL_law wsX12_line := goodIn_r _ [563, 206, 174, 439, 440, 5, 441, 400, 401, 402, 403, 1406, 1407, 1408, 1409, 1410, 1411, 1412, 1413, 1414, 1415, 1416, 1417, 1418, 1419, 1420, 1421, 1422, 1423, 1424, 1425, 1426, 1427, 1428, 1429, 1430, 1431, 1432, 1433, 1434, 1435, 1436, 1437, 1438, 1439, 1440, 1441, 1442, 1443, 1444, 1445, 1446, 1447, 1448, 1449, 1450, 1451, 1452, 1453, 1454, 1455, 1456] (by decide +kernel) (by decide +kernel)
set_option maxRecDepth 20000 in
theorem gL_law_X12_line : GoodIn wsL_law (wsV RL 101 RX12 yX12_line wsX12_line) := goodIn_app (goodIn_of _ (by decide +kernel)) ggL_law_X12_line
set_option maxRecDepth 20000 in
theorem ggL_law_L_micro : GoodIn wsL_law wsL_micro := goodIn_ca (goodIn_r _ [566, 487, 567, 568, 569, 2, 570, 492, 493, 20, 494, 571, 572, 504, 505, 506, 56, 507, 74, 73, 1393, 1394, 1395, 1396, 1397, 1398, 1399, 1400, 1401, 1402, 1403, 1404, 1405, 1457, 1458, 1459, 1460, 1461, 1503, 1504, 1505, 1506, 1507, 1508, 1509, 1510, 1511, 1512, 1513, 1514] (by decide +kernel) (by decide +kernel)) (goodIn_sub (fun _ h => List.mem_append_right _ h) (by decide +kernel))
set_option maxRecDepth 20000 in
theorem gL_law_L_micro : GoodIn wsL_law (va_wsS RL 102 yL_micro wsL_micro) := goodIn_app (goodIn_of _ (by decide +kernel)) ggL_law_L_micro
set_option maxRecDepth 20000 in
theorem ggL_law_X12_micro : GoodIn wsL_law wsX12_micro := goodIn_r _ [576, 206, 174, 439, 440, 5, 441, 400, 401, 402, 403, 1406, 1407, 1408, 1409, 1410, 1411, 1412, 1413, 1414, 1415, 1416, 1417, 1418, 1419, 1420, 1421, 1422, 1423, 1424, 1425, 1426, 1427, 1428, 1429, 1430, 1431, 1432, 1433, 1434, 1435, 1436, 1437, 1438, 1439, 1440, 1441, 1442, 1443, 1444, 1445, 1446, 1447, 1448, 1449, 1450, 1451, 1452, 1453, 1454, 1455, 1456] (by decide +kernel) (by decide +kernel)
set_option maxRecDepth 20000 in
theorem gL_law_X12_micro : GoodIn wsL_law (wsV RL 104 RX12 yX12_micro wsX12_micro) := goodIn_app (goodIn_of _ (by decide +kernel)) ggL_law_X12_micro
set_option maxRecDepth 20000 in
theorem ggL_law_X11_orders : GoodIn wsL_law wsX11_orders := goodIn_r _ [580, 20, 494, 499, 581, 582, 583, 70, 584, 88, 1393, 1394, 1395, 1396, 1397, 1398, 1399, 1400, 1401, 1402, 1403, 1404, 1405, 1457, 1458, 1459, 1460, 1461, 1503, 1504, 1505, 1506, 1507, 1508, 1509, 1510, 1511, 1512, 1513, 1514, 1518, 1519, 1520, 1521] (by decide +kernel) (by decide +kernel)
set_option maxRecDepth 20000 in
theorem gL_law_X11_orders : GoodIn wsL_law (wsV RL 105 RX11 yX11_orders wsX11_orders) := goodIn_app (goodIn_of _ (by decide +kernel)) ggL_law_X11_orders
set_option maxRecDepth 20000 in
theorem ggL_law_X12_orders : GoodIn wsL_law wsX12_orders := goodIn_r _ [588, 206, 589, 590, 591, 5, 592, 174, 1406, 1407, 1408, 1409, 1410, 1411, 1412, 1413, 1414, 1415, 1416, 1417, 1418, 1419, 1420, 1421, 1422, 1423, 1424, 1425, 1426, 1427, 1428, 1429, 1430, 1431, 1432, 1433, 1434, 1435, 1436, 1437, 1438, 1439, 1440, 1441, 1442, 1443, 1444, 1445, 1446, 1447, 1448, 1449, 1450, 1451, 1452, 1453, 1454, 1455, 1456] (by decide +kernel) (by decide +kernel)
set_option maxRecDepth 20000 in
theorem gL_law_X12_orders : GoodIn wsL_law (wsV RL 109 RX12 yX12_orders wsX12_orders) := goodIn_app (goodIn_of _ (by decide +kernel)) ggL_law_X12_orders
set_option maxRecDepth 20000 in
theorem ggL_law_L_shape : GoodIn wsL_law wsL_shape := goodIn_ca (goodIn_r _ [595, 487, 596, 597, 598, 2, 599, 492, 493, 20, 494, 499, 26, 600, 34, 30, 496, 601, 602, 603, 604, 605, 70, 606, 86, 380, 364, 365, 366, 88, 87, 607, 608, 609, 33, 610, 113, 111, 114, 115, 112, 334, 335, 611, 612, 613, 614, 615, 616, 617, 618, 619, 29, 620, 119, 621, 120, 622, 623, 239, 240, 241, 624, 625, 626, 627, 121, 628, 629, 630, 227, 228, 229, 631, 632, 633, 634, 635, 636, 637, 638, 639, 640, 1393, 1394, 1395, 1396, 1397, 1398, 1399, 1400, 1401, 1402, 1403, 1404, 1405, 1457, 1458, 1459, 1460, 1461, 1503, 1504, 1505, 1506, 1507, 1508, 1509, 1510, 1511, 1512, 1513, 1514, 1462, 1463, 1464, 1465, 1466, 1467, 1468, 1469, 1470, 1471, 1518, 1519, 1520, 1521, 1472, 1473, 1474, 1475, 1476] (by decide +kernel) (by decide +kernel)) (goodIn_sub (fun _ h => List.mem_append_right _ h) (by decide +kernel))
set_option maxRecDepth 20000 in
theorem gL_law_L_shape : GoodIn wsL_law (va_wsS RL 110 yL_shape wsL_shape) := goodIn_app (goodIn_of _ (by decide +kernel)) ggL_law_L_shape
set_option maxRecDepth 20000 in
theorem ggL_law_X12_shape : GoodIn wsL_law wsX12_shape := goodIn_r _ [644, 206, 183, 645, 646, 647, 439, 440, 5, 441, 400, 401, 402, 403, 648, 649, 650, 651, 174, 543, 544, 545, 546, 652, 653, 654, 655, 656, 657, 658, 659, 660, 661, 662, 395, 663, 664, 665, 666, 667, 668, 669, 670, 671, 672, 446, 447, 448, 449, 450, 451, 673, 674, 675, 1406, 1407, 1408, 1409, 1410, 1411, 1412, 1413, 1414, 1415, 1416, 1417, 1418, 1419, 1420, 1421, 1422, 1423, 1424, 1425, 1426, 1427, 1428, 1429, 1430, 1431, 1432, 1433, 1434, 1435, 1436, 1437, 1438, 1439, 1440, 1441, 1442, 1443, 1444, 1445, 1446, 1447, 1448, 1449, 1450, 1451, 1452, 1453, 1454, 1455, 1456] (by decide +kernel) (by decide +kernel)
set_option maxRecDepth 20000 in
theorem gL_law_X12_shape : GoodIn wsL_law (wsV RL 112 RX12 yX12_shape wsX12_shape) := goodIn_app (goodIn_of _ (by decide +kernel)) ggL_law_X12_shape
set_option maxRecDepth 20000 in
theorem ggL_law_X11_steps : GoodIn wsL_law wsX11_steps := goodIn_r _ [679, 20, 494, 26, 500, 680, 681, 682, 56, 683, 684, 685, 686, 687, 73, 74, 688, 689, 690, 691, 79, 78, 71, 77, 692, 693, 694, 25, 695, 100, 104, 105, 696, 604, 605, 70, 606, 86, 380, 364, 365, 366, 88, 87, 697, 698, 699, 700, 334, 2, 335, 701, 702, 703, 704, 101, 102, 103, 705, 706, 707, 708, 615, 616, 709, 710, 711, 712, 713, 714, 715, 716, 107, 717, 608, 609, 33, 610, 113, 111, 114, 115, 112, 611, 612, 613, 614, 718, 719, 720, 721, 220, 722, 723, 724, 60, 725, 96, 95, 726, 727, 728, 729, 94, 93, 55, 65, 66, 67, 11, 12, 68, 69, 13, 72, 75, 76, 80, 81, 82, 83, 84, 85, 89, 730, 373, 374, 375, 363, 376, 377, 378, 379, 731, 732, 733, 734, 735, 736, 737, 738, 739, 740, 741, 742, 743, 744, 745, 746, 747, 748, 749, 750, 751, 752, 753, 754, 755, 756, 757, 758, 759, 760, 761, 762, 763, 764, 765, 766, 767, 768, 769, 770, 771, 772, 773, 774, 775, 776, 777, 778, 779, 780, 781, 782, 783, 784, 785, 786, 787, 788, 789, 790, 791, 792, 793, 794, 795, 796, 797, 228, 798, 799, 800, 801, 802, 803, 804, 805, 806, 807, 808, 809, 810, 1393, 1394, 1395, 1396, 1397, 1398, 1399, 1400, 1401, 1402, 1403, 1404, 1405, 1457, 1458, 1459, 1460, 1461, 1503, 1504, 1505, 1506, 1507, 1508, 1509, 1510, 1511, 1512, 1513, 1514, 1462, 1463, 1464, 1465, 1466, 1467, 1468, 1518, 1519, 1520, 1521, 1472, 1473, 1474, 1475, 1476, 1515, 1516, 1517] (by decide +kernel) (by decide +kernel)
set_option maxRecDepth 20000 in
theorem gL_law_X11_steps : GoodIn wsL_law (wsV RL 113 RX11 yX11_steps wsX11_steps) := goodIn_app (goodIn_of _ (by decide +kernel)) ggL_law_X11_steps
set_option maxRecDepth 20000 in
theorem ggL_law_X12_steps : GoodIn wsL_law wsX12_steps := goodIn_r _ [814, 206, 439, 440, 5, 441, 815, 816, 817, 818, 177, 819, 820, 821, 822, 823, 824, 825, 826, 174, 827, 828, 829, 830, 831, 832, 833, 834, 835, 836, 837, 838, 180, 839, 840, 841, 842, 843, 844, 845, 846, 847, 543, 544, 545, 546, 848, 849, 850, 851, 852, 853, 854, 855, 181, 182, 856, 857, 858, 859, 645, 663, 664, 665, 666, 647, 646, 667, 668, 669, 670, 671, 672, 446, 447, 448, 449, 450, 451, 673, 674, 675, 860, 861, 862, 863, 864, 865, 866, 867, 395, 868, 869, 870, 871, 872, 873, 874, 875, 876, 877, 878, 879, 880, 881, 882, 883, 884, 885, 886, 887, 888, 889, 890, 891, 892, 893, 894, 895, 896, 897, 898, 899, 900, 901, 902, 903, 904, 905, 906, 907, 399, 398, 908, 909, 910, 1406, 1407, 1408, 1409, 1410, 1411, 1412, 1413, 1414, 1415, 1416, 1417, 1418, 1419, 1420, 1421, 1422, 1423, 1424, 1425, 1426, 1427, 1428, 1429, 1430, 1431, 1432, 1433, 1434, 1435, 1436, 1437, 1438, 1439, 1440, 1441, 1442, 1443, 1444, 1445, 1446, 1447, 1448, 1449, 1450, 1451, 1452, 1453, 1454, 1455, 1456] (by decide +kernel) (by decide +kernel)
set_option maxRecDepth 20000 in
theorem gL_law_X12_steps : GoodIn wsL_law (wsV RL 116 RX12 yX12_steps wsX12_steps) := goodIn_app (goodIn_of _ (by decide +kernel)) ggL_law_X12_steps
set_option maxRecDepth 20000 in
theorem ggL_law_L_evict : GoodIn wsL_law wsL_evict := goodIn_ca (goodIn_r _ [913, 487, 914, 915, 916, 2, 917, 492, 493, 20, 494, 499, 554, 500, 557, 558, 559, 718, 719, 720, 721, 220, 722, 723, 724, 60, 725, 96, 95, 726, 727, 728, 729, 94, 93, 55, 56, 65, 66, 67, 11, 12, 68, 69, 70, 71, 13, 72, 73, 74, 75, 76, 77, 78, 79, 80, 81, 82, 83, 84, 85, 86, 87, 88, 89, 730, 373, 374, 375, 363, 364, 365, 366, 376, 377, 378, 379, 380, 918, 793, 794, 795, 796, 797, 228, 798, 1393, 1394, 1395, 1396, 1397, 1398, 1399, 1400, 1401, 1402, 1403, 1404, 1405, 1457, 1458, 1459, 1460, 1461, 1503, 1504, 1505, 1506, 1507, 1508, 1509, 1510, 1511, 1512, 1513, 1514, 1518, 1519, 1520, 1521, 1515, 1516, 1517] (by decide +kernel) (by decide +kernel)) (goodIn_sub (fun _ h => List.mem_append_right _ h) (by decide +kernel))
set_option maxRecDepth 20000 in
theorem gL_law_L_evict : GoodIn wsL_law (va_wsS RL 117 yL_evict wsL_evict) := goodIn_app (goodIn_of _ (by decide +kernel)) ggL_law_L_evict
set_option maxRecDepth 20000 in
theorem ggL_law_X12_evict : GoodIn wsL_law wsX12_evict := goodIn_r _ [922, 206, 174, 439, 440, 5, 441, 400, 401, 402, 403, 815, 816, 817, 818, 177, 819, 820, 821, 822, 823, 824, 825, 826, 900, 901, 902, 903, 904, 905, 906, 907, 399, 398, 908, 909, 910, 1406, 1407, 1408, 1409, 1410, 1411, 1412, 1413, 1414, 1415, 1416, 1417, 1418, 1419, 1420, 1421, 1422, 1423, 1424, 1425, 1426, 1427, 1428, 1429, 1430, 1431, 1432, 1433, 1434, 1435, 1436, 1437, 1438, 1439, 1440, 1441, 1442, 1443, 1444, 1445, 1446, 1447, 1448, 1449, 1450, 1451, 1452, 1453, 1454, 1455, 1456] (by decide +kernel) (by decide +kernel)
set_option maxRecDepth 20000 in
theorem gL_law_X12_evict : GoodIn wsL_law (wsV RL 119 RX12 yX12_evict wsX12_evict) := goodIn_app (goodIn_of _ (by decide +kernel)) ggL_law_X12_evict
set_option maxRecDepth 20000 in
theorem ggL_law_X11_crash : GoodIn wsL_law wsX11_crash := goodIn_r _ [926, 20, 494, 495, 500, 30, 499, 927, 928, 929, 2, 930, 581, 582, 583, 70, 584, 88, 718, 719, 720, 721, 220, 722, 723, 724, 60, 725, 96, 95, 726, 727, 728, 729, 94, 93, 55, 56, 65, 66, 67, 11, 12, 68, 69, 71, 13, 72, 73, 74, 75, 76, 77, 78, 79, 80, 81, 82, 83, 84, 85, 86, 87, 89, 730, 373, 374, 375, 363, 364, 365, 366, 376, 377, 378, 379, 380, 931, 932, 933, 29, 934, 935, 936, 618, 619, 620, 119, 621, 120, 622, 623, 239, 240, 241, 937, 938, 939, 940, 941, 942, 943, 944, 945, 946, 121, 947, 948, 949, 625, 626, 627, 628, 629, 630, 227, 228, 229, 631, 632, 633, 634, 635, 636, 950, 951, 952, 953, 954, 955, 956, 957, 958, 959, 960, 961, 360, 361, 362, 744, 745, 746, 747, 1393, 1394, 1395, 1396, 1397, 1398, 1399, 1400, 1401, 1402, 1403, 1404, 1405, 1457, 1458, 1459, 1460, 1461, 1503, 1504, 1505, 1506, 1507, 1508, 1509, 1510, 1511, 1512, 1513, 1514, 1518, 1519, 1520, 1521, 1515, 1516, 1517, 1469, 1470, 1471] (by decide +kernel) (by decide +kernel)
set_option maxRecDepth 20000 in
theorem gL_law_X11_crash : GoodIn wsL_law (wsV RL 120 RX11 yX11_crash wsX11_crash) := goodIn_app (goodIn_of _ (by decide +kernel)) ggL_law_X11_crash
set_option maxRecDepth 20000 in
theorem ggL_law_X12_crash : GoodIn wsL_law wsX12_crash := goodIn_r _ [965, 206, 174, 966, 967, 968, 5, 969, 589, 590, 591, 592, 815, 816, 817, 818, 177, 819, 820, 821, 822, 823, 824, 825, 826, 970, 971, 972, 973, 184, 974, 975, 976, 977, 185, 978, 979, 980, 981, 982, 183, 186, 648, 649, 650, 651, 652, 653, 654, 655, 656, 657, 658, 659, 660, 661, 662, 395, 439, 440, 441, 543, 544, 545, 546, 983, 984, 985, 986, 987, 988, 989, 990, 904, 905, 906, 907, 399, 398, 908, 909, 910, 1406, 1407, 1408, 1409, 1410, 1411, 1412, 1413, 1414, 1415, 1416, 1417, 1418, 1419, 1420, 1421, 1422, 1423, 1424, 1425, 1426, 1427, 1428, 1429, 1430, 1431, 1432, 1433, 1434, 1435, 1436, 1437, 1438, 1439, 1440, 1441, 1442, 1443, 1444, 1445, 1446, 1447, 1448, 1449, 1450, 1451, 1452, 1453, 1454, 1455, 1456] (by decide +kernel) (by decide +kernel)
set_option maxRecDepth 20000 in
theorem gL_law_X12_crash : GoodIn wsL_law (wsV RL 123 RX12 yX12_crash wsX12_crash) := goodIn_app (goodIn_of _ (by decide +kernel)) ggL_law_X12_crash
set_option maxRecDepth 20000 in
theorem ggL_law_X11_recover : GoodIn wsL_law wsX11_recover := goodIn_r _ [994, 20, 494, 495, 500, 26, 718, 719, 720, 2, 721, 220, 722, 723, 724, 60, 725, 96, 95, 726, 727, 728, 729, 94, 93, 55, 56, 65, 66, 67, 11, 12, 68, 69, 70, 71, 13, 72, 73, 74, 75, 76, 77, 78, 79, 80, 81, 82, 83, 84, 85, 86, 87, 88, 89, 730, 373, 374, 375, 363, 364, 365, 366, 376, 377, 378, 379, 380, 995, 996, 997, 998, 999, 1000, 1001, 1002, 25, 1003, 1004, 227, 228, 229, 104, 101, 102, 632, 633, 635, 636, 776, 777, 778, 779, 752, 753, 755, 760, 761, 762, 763, 780, 781, 782, 783, 764, 765, 766, 767, 768, 769, 770, 771, 504, 505, 506, 507, 1393, 1394, 1395, 1396, 1397, 1398, 1399, 1400, 1401, 1402, 1403, 1404, 1405, 1457, 1458, 1459, 1460, 1461, 1503, 1504, 1505, 1506, 1507, 1508, 1509, 1510, 1511, 1512, 1513, 1514, 1515, 1516, 1517, 1518, 1519, 1520, 1521, 1462, 1463, 1464, 1465, 1466, 1467, 1468] (by decide +kernel) (by decide +kernel)
set_option maxRecDepth 20000 in
theorem gL_law_X11_recover : GoodIn wsL_law (wsV RL 124 RX11 yX11_recover wsX11_recover) := goodIn_app (goodIn_of _ (by decide +kernel)) ggL_law_X11_recover
set_option maxRecDepth 20000 in
theorem ggL_law_X12_recover : GoodIn wsL_law wsX12_recover := goodIn_r _ [1008, 206, 174, 815, 816, 817, 5, 818, 177, 819, 820, 821, 822, 823, 824, 825, 826, 1009, 1010, 1011, 1012, 183, 843, 181, 182, 648, 649, 650, 651, 656, 657, 658, 659, 660, 661, 662, 395, 439, 440, 441, 868, 869, 870, 871, 888, 889, 890, 891, 872, 873, 874, 875, 876, 877, 878, 879, 880, 881, 882, 883, 884, 885, 886, 887, 652, 653, 654, 655, 904, 905, 906, 907, 399, 398, 908, 909, 910, 1406, 1407, 1408, 1409, 1410, 1411, 1412, 1413, 1414, 1415, 1416, 1417, 1418, 1419, 1420, 1421, 1422, 1423, 1424, 1425, 1426, 1427, 1428, 1429, 1430, 1431, 1432, 1433, 1434, 1435, 1436, 1437, 1438, 1439, 1440, 1441, 1442, 1443, 1444, 1445, 1446, 1447, 1448, 1449, 1450, 1451, 1452, 1453, 1454, 1455, 1456] (by decide +kernel) (by decide +kernel)
set_option maxRecDepth 20000 in
theorem gL_law_X12_recover : GoodIn wsL_law (wsV RL 127 RX12 yX12_recover wsX12_recover) := goodIn_app (goodIn_of _ (by decide +kernel)) ggL_law_X12_recover
set_option maxRecDepth 20000 in
theorem ggL_law_L_later : GoodIn wsL_law wsL_later := goodIn_ca (goodIn_r _ [1015, 487, 1016, 1017, 1018, 2, 1019, 492, 493, 20, 494, 498, 500, 1020, 1021, 1022, 358, 1023, 1024, 1025, 718, 719, 720, 721, 220, 722, 723, 724, 60, 725, 96, 95, 726, 727, 728, 729, 94, 93, 55, 56, 65, 66, 67, 11, 12, 68, 69, 70, 71, 13, 72, 73, 74, 75, 76, 77, 78, 79, 80, 81, 82, 83, 84, 85, 86, 87, 88, 89, 730, 373, 374, 375, 363, 364, 365, 366, 376, 377, 378, 379, 380, 1026, 356, 357, 1027, 1028, 1029, 1030, 1393, 1394, 1395, 1396, 1397, 1398, 1399, 1400, 1401, 1402, 1403, 1404, 1405, 1457, 1458, 1459, 1460, 1461, 1503, 1504, 1505, 1506, 1507, 1508, 1509, 1510, 1511, 1512, 1513, 1514, 1515, 1516, 1517, 1518, 1519, 1520, 1521] (by decide +kernel) (by decide +kernel)) (goodIn_sub (fun _ h => List.mem_append_right _ h) (by decide +kernel))
set_option maxRecDepth 20000 in
theorem gL_law_L_later : GoodIn wsL_law (va_wsS RL 128 yL_later wsL_later) := goodIn_app (goodIn_of _ (by decide +kernel)) ggL_law_L_later
set_option maxRecDepth 20000 in
theorem ggL_law_X12_later : GoodIn wsL_law wsX12_later := goodIn_r _ [1034, 206, 174, 439, 440, 5, 441, 400, 401, 402, 403, 1035, 1036, 1037, 815, 816, 817, 818, 177, 819, 820, 821, 822, 823, 824, 825, 826, 1038, 1039, 1040, 1041, 904, 905, 906, 907, 399, 398, 908, 909, 910, 1406, 1407, 1408, 1409, 1410, 1411, 1412, 1413, 1414, 1415, 1416, 1417, 1418, 1419, 1420, 1421, 1422, 1423, 1424, 1425, 1426, 1427, 1428, 1429, 1430, 1431, 1432, 1433, 1434, 1435, 1436, 1437, 1438, 1439, 1440, 1441, 1442, 1443, 1444, 1445, 1446, 1447, 1448, 1449, 1450, 1451, 1452, 1453, 1454, 1455, 1456] (by decide +kernel) (by decide +kernel)
set_option maxRecDepth 20000 in
theorem gL_law_X12_later : GoodIn wsL_law (wsV RL 131 RX12 yX12_later wsX12_later) := goodIn_app (goodIn_of _ (by decide +kernel)) ggL_law_X12_later
set_option maxRecDepth 20000 in
theorem ggL_law_L_site : GoodIn wsL_law wsL_site := goodIn_ca (goodIn_r _ [1044, 487, 1045, 1046, 1047, 2, 1048, 492, 493, 20, 500, 494, 497, 722, 723, 724, 60, 725, 96, 95, 726, 727, 728, 729, 94, 93, 55, 56, 65, 66, 67, 11, 12, 68, 69, 70, 71, 13, 72, 73, 74, 75, 76, 77, 78, 79, 80, 81, 82, 83, 84, 85, 86, 87, 88, 89, 730, 373, 374, 375, 363, 364, 365, 366, 376, 377, 378, 379, 380, 1393, 1394, 1395, 1396, 1397, 1398, 1399, 1400, 1401, 1402, 1403, 1404, 1405, 1457, 1458, 1459, 1460, 1461, 1503, 1504, 1505, 1506, 1507, 1508, 1509, 1510, 1511, 1512, 1513, 1514, 1515, 1516, 1517, 1518, 1519, 1520, 1521] (by decide +kernel) (by decide +kernel)) (goodIn_sub (fun _ h => List.mem_append_right _ h) (by decide +kernel))
set_option maxRecDepth 20000 in
theorem gL_law_L_site : GoodIn wsL_law (va_wsS RL 132 yL_site wsL_site) := goodIn_app (goodIn_of _ (by decide +kernel)) ggL_law_L_site
set_option maxRecDepth 20000 in
theorem ggL_law_X12_site : GoodIn wsL_law wsX12_site := goodIn_r _ [1052, 206, 174, 439, 440, 5, 441, 400, 401, 402, 403, 819, 820, 821, 822, 823, 824, 825, 826, 904, 905, 906, 907, 399, 398, 815, 816, 817, 818, 177, 908, 909, 910, 1406, 1407, 1408, 1409, 1410, 1411, 1412, 1413, 1414, 1415, 1416, 1417, 1418, 1419, 1420, 1421, 1422, 1423, 1424, 1425, 1426, 1427, 1428, 1429, 1430, 1431, 1432, 1433, 1434, 1435, 1436, 1437, 1438, 1439, 1440, 1441, 1442, 1443, 1444, 1445, 1446, 1447, 1448, 1449, 1450, 1451, 1452, 1453, 1454, 1455, 1456] (by decide +kernel) (by decide +kernel)
set_option maxRecDepth 20000 in
theorem gL_law_X12_site : GoodIn wsL_law (wsV RL 134 RX12 yX12_site wsX12_site) := goodIn_app (goodIn_of _ (by decide +kernel)) ggL_law_X12_site
set_option maxRecDepth 20000 in
theorem ggL_law_X11_undo : GoodIn wsL_law wsX11_undo := goodIn_r _ [1056, 20, 500, 494, 501, 1057, 1058, 1059, 60, 1060, 96, 726, 727, 728, 729, 95, 94, 93, 55, 56, 65, 66, 67, 11, 12, 68, 69, 70, 71, 13, 72, 73, 74, 75, 76, 77, 78, 79, 80, 81, 82, 83, 84, 85, 86, 87, 88, 89, 730, 373, 374, 375, 363, 364, 365, 366, 376, 377, 378, 379, 380, 1393, 1394, 1395, 1396, 1397, 1398, 1399, 1400, 1401, 1402, 1403, 1404, 1405, 1457, 1458, 1459, 1460, 1461, 1515, 1516, 1517, 1503, 1504, 1505, 1506, 1507, 1508, 1509, 1510, 1511, 1512, 1513, 1514, 1518, 1519, 1520, 1521] (by decide +kernel) (by decide +kernel)
set_option maxRecDepth 20000 in
theorem gL_law_X11_undo : GoodIn wsL_law (wsV RL 135 RX11 yX11_undo wsX11_undo) := goodIn_app (goodIn_of _ (by decide +kernel)) ggL_law_X11_undo
set_option maxRecDepth 20000 in
theorem ggL_law_X12_undo : GoodIn wsL_law wsX12_undo := goodIn_r _ [1064, 206, 399, 398, 908, 909, 5, 910, 823, 824, 825, 826, 174, 1406, 1407, 1408, 1409, 1410, 1411, 1412, 1413, 1414, 1415, 1416, 1417, 1418, 1419, 1420, 1421, 1422, 1423, 1424, 1425, 1426, 1427, 1428, 1429, 1430, 1431, 1432, 1433, 1434, 1435, 1436, 1437, 1438, 1439, 1440, 1441, 1442, 1443, 1444, 1445, 1446, 1447, 1448, 1449, 1450, 1451, 1452, 1453, 1454, 1455, 1456] (by decide +kernel) (by decide +kernel)
set_option maxRecDepth 20000 in
theorem gL_law_X12_undo : GoodIn wsL_law (wsV RL 138 RX12 yX12_undo wsX12_undo) := goodIn_app (goodIn_of _ (by decide +kernel)) ggL_law_X12_undo
set_option maxRecDepth 20000 in
theorem ggL_law_L_recovered : GoodIn wsL_law wsL_recovered := goodIn_ca (goodIn_ca (goodIn_r _ [1067, 487, 212, 1068, 1069, 1070, 2, 1071, 492, 493, 217, 218, 30, 20, 494, 499, 496, 602, 528, 529, 530, 927, 928, 929, 930, 581, 582, 583, 70, 584, 88, 931, 932, 933, 29, 934, 935, 936, 618, 619, 620, 119, 621, 120, 622, 364, 365, 366, 623, 239, 240, 241, 937, 938, 939, 940, 941, 624, 625, 626, 627, 121, 628, 629, 630, 227, 228, 229, 631, 632, 633, 634, 635, 636, 1393, 1394, 1395, 1396, 1397, 1398, 1399, 1400, 1401, 1402, 1403, 1404, 1405, 1457, 1458, 1459, 1460, 1461, 1503, 1504, 1505, 1506, 1507, 1508, 1509, 1510, 1511, 1512, 1513, 1514, 1469, 1470, 1471, 1518, 1519, 1520, 1521] (by decide +kernel) (by decide +kernel)) (goodIn_sub (fun _ h => List.mem_append_right _ h) (by decide +kernel))) (goodIn_sub (fun _ h => List.mem_append_left _ (List.mem_append_right _ h)) (by decide +kernel))
set_option maxRecDepth 20000 in
theorem gL_law_L_recovered : GoodIn wsL_law (va_wsS RL 139 yL_recovered wsL_recovered) := goodIn_app (goodIn_of _ (by decide +kernel)) ggL_law_L_recovered
set_option maxRecDepth 20000 in
theorem ggL_law_X12_recovered : GoodIn wsL_law wsX12_recovered := goodIn_r _ [1075, 206, 185, 539, 540, 541, 5, 542, 439, 440, 441, 400, 401, 402, 403, 966, 967, 968, 969, 589, 590, 591, 592, 174, 970, 971, 972, 973, 184, 987, 988, 989, 990, 652, 653, 654, 655, 656, 657, 658, 659, 660, 661, 662, 395, 1406, 1407, 1408, 1409, 1410, 1411, 1412, 1413, 1414, 1415, 1416, 1417, 1418, 1419, 1420, 1421, 1422, 1423, 1424, 1425, 1426, 1427, 1428, 1429, 1430, 1431, 1432, 1433, 1434, 1435, 1436, 1437, 1438, 1439, 1440, 1441, 1442, 1443, 1444, 1445, 1446, 1447, 1448, 1449, 1450, 1451, 1452, 1453, 1454, 1455, 1456] (by decide +kernel) (by decide +kernel)
set_option maxRecDepth 20000 in
theorem gL_law_X12_recovered : GoodIn wsL_law (wsV RL 141 RX12 yX12_recovered wsX12_recovered) := goodIn_app (goodIn_of _ (by decide +kernel)) ggL_law_X12_recovered
set_option maxRecDepth 20000 in
theorem ggL_law_L_fate : GoodIn wsL_law wsL_fate := goodIn_ca (goodIn_r _ [1078, 212, 1079, 1080, 1081, 2, 1082, 217, 218, 30, 20, 494, 499, 927, 928, 929, 930, 581, 582, 583, 70, 584, 88, 931, 932, 933, 29, 934, 935, 936, 618, 619, 620, 119, 621, 120, 622, 364, 365, 366, 623, 239, 240, 241, 937, 938, 939, 940, 941, 942, 943, 944, 945, 946, 121, 947, 948, 949, 625, 626, 627, 628, 629, 630, 227, 228, 229, 631, 632, 633, 634, 635, 636, 1393, 1394, 1395, 1396, 1397, 1398, 1399, 1400, 1401, 1402, 1403, 1404, 1405, 1457, 1458, 1459, 1460, 1461, 1503, 1504, 1505, 1506, 1507, 1508, 1509, 1510, 1511, 1512, 1513, 1514, 1518, 1519, 1520, 1521, 1469, 1470, 1471] (by decide +kernel) (by decide +kernel)) (goodIn_sub (fun _ h => List.mem_append_left _ (List.mem_append_right _ h)) (by decide +kernel))
set_option maxRecDepth 20000 in
theorem gL_law_L_fate : GoodIn wsL_law (va_wsS RL 142 yL_fate wsL_fate) := goodIn_app (goodIn_of _ (by decide +kernel)) ggL_law_L_fate
set_option maxRecDepth 20000 in
theorem ggL_law_X12_fate : GoodIn wsL_law wsX12_fate := goodIn_r _ [1086, 206, 966, 967, 968, 5, 969, 589, 590, 591, 592, 174, 400, 401, 402, 403, 970, 971, 972, 973, 184, 978, 979, 980, 981, 982, 183, 186, 648, 649, 650, 651, 652, 653, 654, 655, 656, 657, 658, 659, 660, 661, 662, 395, 439, 440, 441, 543, 544, 545, 546, 983, 984, 985, 986, 185, 987, 988, 989, 990, 1406, 1407, 1408, 1409, 1410, 1411, 1412, 1413, 1414, 1415, 1416, 1417, 1418, 1419, 1420, 1421, 1422, 1423, 1424, 1425, 1426, 1427, 1428, 1429, 1430, 1431, 1432, 1433, 1434, 1435, 1436, 1437, 1438, 1439, 1440, 1441, 1442, 1443, 1444, 1445, 1446, 1447, 1448, 1449, 1450, 1451, 1452, 1453, 1454, 1455, 1456] (by decide +kernel) (by decide +kernel)
set_option maxRecDepth 20000 in
theorem gL_law_X12_fate : GoodIn wsL_law (wsV RL 144 RX12 yX12_fate wsX12_fate) := goodIn_app (goodIn_of _ (by decide +kernel)) ggL_law_X12_fate
set_option maxRecDepth 20000 in
theorem ggL_law_L_check : GoodIn wsL_law wsL_check := goodIn_ca (goodIn_r _ [1089, 487, 1090, 1091, 1092, 2, 1093, 492, 493, 42, 20, 494, 497, 1094, 1095, 1096, 1097, 1098, 1099, 1100, 41, 1101, 131, 1102, 136, 137, 138, 139, 1103, 133, 1104, 1105, 1106, 373, 374, 56, 375, 71, 72, 363, 364, 365, 366, 73, 74, 75, 76, 77, 78, 79, 80, 81, 82, 376, 377, 378, 70, 379, 86, 380, 87, 88, 89, 1107, 996, 997, 998, 999, 1000, 1001, 1002, 25, 1003, 1004, 227, 228, 229, 104, 101, 102, 632, 633, 635, 636, 776, 777, 778, 779, 752, 753, 755, 760, 761, 762, 763, 780, 781, 782, 783, 764, 765, 766, 767, 768, 769, 770, 771, 1108, 685, 686, 687, 1109, 582, 583, 584, 1110, 1111, 1112, 1113, 135, 1114, 618, 619, 29, 620, 119, 621, 120, 622, 623, 239, 240, 241, 1115, 943, 944, 945, 946, 121, 947, 948, 949, 625, 626, 627, 628, 629, 630, 631, 634, 1116, 1117, 1118, 1119, 935, 937, 938, 939, 940, 941, 1120, 732, 733, 734, 684, 692, 693, 694, 695, 100, 105, 696, 604, 605, 606, 697, 698, 699, 700, 334, 335, 701, 702, 703, 704, 103, 705, 706, 707, 708, 615, 616, 709, 710, 711, 712, 713, 714, 715, 716, 107, 717, 608, 609, 33, 610, 113, 111, 114, 115, 112, 611, 612, 613, 614, 735, 736, 737, 738, 739, 740, 741, 742, 743, 744, 745, 746, 747, 748, 749, 750, 751, 754, 756, 757, 758, 759, 772, 773, 774, 775, 784, 785, 786, 787, 788, 789, 790, 791, 792, 793, 794, 795, 796, 797, 798, 799, 800, 801, 802, 803, 804, 805, 806, 807, 808, 809, 810, 1393, 1394, 1395, 1396, 1397, 1398, 1399, 1400, 1401, 1402, 1403, 1404, 1405, 1457, 1458, 1459, 1460, 1461, 1503, 1504, 1505, 1506, 1507, 1508, 1509, 1510, 1511, 1512, 1513, 1514, 1479, 1480, 1481, 1482, 1483, 1484, 1485, 1518, 1519, 1520, 1521, 1462, 1463, 1464, 1465, 1466, 1467, 1468, 1469, 1470, 1471, 1472, 1473, 1474, 1475, 1476] (by decide +kernel) (by decide +kernel)) (goodIn_sub (fun _ h => List.mem_append_right _ h) (by decide +kernel))
set_option maxRecDepth 20000 in
theorem gL_law_L_check : GoodIn wsL_law (va_wsS RL 145 yL_check wsL_check) := goodIn_app (goodIn_of _ (by decide +kernel)) ggL_law_L_check
set_option maxRecDepth 20000 in
theorem ggL_law_X12_check : GoodIn wsL_law wsX12_check := goodIn_r _ [1124, 206, 174, 1125, 1126, 1127, 1128, 439, 440, 5, 441, 400, 401, 402, 403, 1129, 1130, 1131, 1132, 819, 820, 821, 822, 823, 824, 825, 826, 1009, 1010, 1011, 1012, 183, 843, 181, 182, 648, 649, 650, 651, 656, 657, 658, 659, 660, 661, 662, 395, 868, 869, 870, 871, 888, 889, 890, 891, 872, 873, 874, 875, 876, 877, 878, 879, 880, 881, 882, 883, 884, 885, 886, 887, 652, 653, 654, 655, 835, 836, 837, 838, 180, 839, 840, 841, 842, 844, 845, 846, 847, 543, 544, 545, 546, 848, 849, 850, 851, 852, 853, 854, 855, 856, 857, 858, 859, 645, 663, 664, 665, 666, 647, 646, 667, 668, 669, 670, 671, 672, 446, 447, 448, 449, 450, 451, 673, 674, 675, 860, 861, 862, 863, 864, 865, 866, 867, 1133, 1134, 1135, 1136, 1137, 589, 590, 591, 592, 978, 979, 980, 981, 982, 186, 1138, 1139, 1140, 1141, 184, 983, 984, 985, 986, 185, 987, 988, 989, 990, 1142, 1143, 1144, 1145, 831, 832, 833, 834, 892, 893, 894, 895, 896, 897, 898, 899, 900, 901, 902, 903, 1406, 1407, 1408, 1409, 1410, 1411, 1412, 1413, 1414, 1415, 1416, 1417, 1418, 1419, 1420, 1421, 1422, 1423, 1424, 1425, 1426, 1427, 1428, 1429, 1430, 1431, 1432, 1433, 1434, 1435, 1436, 1437, 1438, 1439, 1440, 1441, 1442, 1443, 1444, 1445, 1446, 1447, 1448, 1449, 1450, 1451, 1452, 1453, 1454, 1455, 1456] (by decide +kernel) (by decide +kernel)
set_option maxRecDepth 20000 in
theorem gL_law_X12_check : GoodIn wsL_law (wsV RL 147 RX12 yX12_check wsX12_check) := goodIn_app (goodIn_of _ (by decide +kernel)) ggL_law_X12_check
set_option maxRecDepth 20000 in
theorem ggL_law_X11_needless : GoodIn wsL_law wsX11_needless := goodIn_r _ [1149, 20, 494, 26, 497, 42, 1150, 689, 690, 56, 691, 79, 78, 71, 77, 684, 685, 686, 687, 73, 74, 692, 693, 694, 25, 695, 100, 104, 105, 696, 604, 605, 70, 606, 86, 380, 364, 365, 366, 88, 87, 697, 698, 699, 700, 334, 2, 335, 701, 702, 703, 704, 101, 102, 103, 705, 706, 707, 708, 615, 616, 709, 710, 711, 712, 713, 714, 715, 716, 107, 717, 608, 609, 33, 610, 113, 111, 114, 115, 112, 611, 612, 613, 614, 1098, 1099, 1100, 41, 1101, 131, 1102, 136, 137, 138, 139, 1103, 133, 1104, 1105, 1106, 373, 374, 375, 72, 363, 75, 76, 80, 81, 82, 376, 377, 378, 379, 89, 1107, 996, 997, 998, 999, 1000, 1001, 1002, 1003, 1004, 227, 228, 229, 632, 633, 635, 636, 776, 777, 778, 779, 752, 753, 755, 760, 761, 762, 763, 780, 781, 782, 783, 764, 765, 766, 767, 768, 769, 770, 771, 1108, 1109, 582, 583, 584, 1110, 1111, 1112, 1113, 135, 1114, 618, 619, 29, 620, 119, 621, 120, 622, 623, 239, 240, 241, 1115, 943, 944, 945, 946, 121, 947, 948, 949, 625, 626, 627, 628, 629, 630, 631, 634, 1116, 1117, 1118, 1119, 935, 937, 938, 939, 940, 941, 1120, 732, 733, 734, 735, 736, 737, 738, 739, 740, 741, 742, 743, 744, 745, 746, 747, 748, 749, 750, 751, 754, 756, 757, 758, 759, 772, 773, 774, 775, 784, 785, 786, 787, 788, 789, 790, 791, 792, 793, 794, 795, 796, 797, 798, 799, 800, 801, 802, 803, 804, 805, 806, 807, 808, 809, 810, 1151, 1152, 1153, 1154, 1393, 1394, 1395, 1396, 1397, 1398, 1399, 1400, 1401, 1402, 1403, 1404, 1405, 1457, 1458, 1459, 1460, 1461, 1503, 1504, 1505, 1506, 1507, 1508, 1509, 1510, 1511, 1512, 1513, 1514, 1462, 1463, 1464, 1465, 1466, 1467, 1468, 1518, 1519, 1520, 1521, 1472, 1473, 1474, 1475, 1476, 1479, 1480, 1481, 1482, 1483, 1484, 1485, 1469, 1470, 1471] (by decide +kernel) (by decide +kernel)
set_option maxRecDepth 20000 in
theorem gL_law_X11_needless : GoodIn wsL_law (wsV RL 148 RX11 yX11_needless wsX11_needless) := goodIn_app (goodIn_of _ (by decide +kernel)) ggL_law_X11_needless
set_option maxRecDepth 20000 in
theorem ggL_law_X12_needless : GoodIn wsL_law wsX12_needless := goodIn_r _ [1158, 206, 174, 1159, 1160, 1161, 5, 1162, 823, 824, 825, 826, 835, 836, 837, 838, 180, 839, 840, 841, 842, 843, 844, 845, 846, 847, 543, 544, 545, 546, 848, 849, 850, 851, 852, 853, 854, 855, 181, 182, 856, 857, 858, 859, 645, 663, 664, 665, 666, 647, 646, 667, 668, 669, 670, 671, 672, 446, 447, 448, 449, 450, 451, 673, 674, 675, 860, 861, 862, 863, 864, 865, 866, 867, 395, 868, 869, 870, 871, 872, 873, 874, 875, 876, 877, 878, 879, 880, 881, 882, 883, 884, 885, 886, 887, 888, 889, 890, 891, 1163, 1164, 1165, 1166, 1127, 1125, 1129, 1130, 1131, 1132, 1128, 1126, 819, 820, 821, 822, 1009, 1010, 1011, 1012, 183, 648, 649, 650, 651, 656, 657, 658, 659, 660, 661, 662, 439, 440, 441, 652, 653, 654, 655, 1133, 1134, 1135, 1136, 1137, 589, 590, 591, 592, 978, 979, 980, 981, 982, 186, 1138, 1139, 1140, 1141, 184, 983, 984, 985, 986, 185, 987, 988, 989, 990, 1142, 1143, 1144, 1145, 831, 832, 833, 834, 892, 893, 894, 895, 896, 897, 898, 899, 900, 901, 902, 903, 1406, 1407, 1408, 1409, 1410, 1411, 1412, 1413, 1414, 1415, 1416, 1417, 1418, 1419, 1420, 1421, 1422, 1423, 1424, 1425, 1426, 1427, 1428, 1429, 1430, 1431, 1432, 1433, 1434, 1435, 1436, 1437, 1438, 1439, 1440, 1441, 1442, 1443, 1444, 1445, 1446, 1447, 1448, 1449, 1450, 1451, 1452, 1453, 1454, 1455, 1456] (by decide +kernel) (by decide +kernel)
set_option maxRecDepth 20000 in
theorem gL_law_X12_needless : GoodIn wsL_law (wsV RL 151 RX12 yX12_needless wsX12_needless) := goodIn_app (goodIn_of _ (by decide +kernel)) ggL_law_X12_needless
set_option maxRecDepth 20000 in
theorem ggL_law_L_least : GoodIn wsL_law wsL_least := goodIn_ca (goodIn_r _ [1169, 487, 1170, 1171, 1172, 2, 1173, 492, 493, 20, 494, 26, 497, 42, 1150, 689, 690, 56, 691, 79, 78, 71, 77, 684, 685, 686, 687, 73, 74, 692, 693, 694, 25, 695, 100, 104, 105, 696, 604, 605, 70, 606, 86, 380, 364, 365, 366, 88, 87, 697, 698, 699, 700, 334, 335, 701, 702, 703, 704, 101, 102, 103, 705, 706, 707, 708, 615, 616, 709, 710, 711, 712, 713, 714, 715, 716, 107, 717, 608, 609, 33, 610, 113, 111, 114, 115, 112, 611, 612, 613, 614, 1174, 1175, 1176, 1177, 1178, 1179, 1180, 1098, 1099, 1100, 41, 1101, 131, 1102, 136, 137, 138, 139, 1103, 133, 1104, 1105, 1106, 373, 374, 375, 72, 363, 75, 76, 80, 81, 82, 376, 377, 378, 379, 89, 1107, 996, 997, 998, 999, 1000, 1001, 1002, 1003, 1004, 227, 228, 229, 632, 633, 635, 636, 776, 777, 778, 779, 752, 753, 755, 760, 761, 762, 763, 780, 781, 782, 783, 764, 765, 766, 767, 768, 769, 770, 771, 1108, 1109, 582, 583, 584, 1110, 1111, 1112, 1113, 135, 1114, 618, 619, 29, 620, 119, 621, 120, 622, 623, 239, 240, 241, 1115, 943, 944, 945, 946, 121, 947, 948, 949, 625, 626, 627, 628, 629, 630, 631, 634, 1116, 1117, 1118, 1119, 935, 937, 938, 939, 940, 941, 1120, 732, 733, 734, 735, 736, 737, 738, 739, 740, 741, 742, 743, 744, 745, 746, 747, 748, 749, 750, 751, 754, 756, 757, 758, 759, 772, 773, 774, 775, 784, 785, 786, 787, 788, 789, 790, 791, 792, 793, 794, 795, 796, 797, 798, 799, 800, 801, 802, 803, 804, 805, 806, 807, 808, 809, 810, 1151, 1152, 1153, 1154, 1393, 1394, 1395, 1396, 1397, 1398, 1399, 1400, 1401, 1402, 1403, 1404, 1405, 1457, 1458, 1459, 1460, 1461, 1503, 1504, 1505, 1506, 1507, 1508, 1509, 1510, 1511, 1512, 1513, 1514, 1462, 1463, 1464, 1465, 1466, 1467, 1468, 1518, 1519, 1520, 1521, 1472, 1473, 1474, 1475, 1476, 1479, 1480, 1481, 1482, 1483, 1484, 1485, 1469, 1470, 1471] (by decide +kernel) (by decide +kernel)) (goodIn_sub (fun _ h => List.mem_append_right _ h) (by decide +kernel))
set_option maxRecDepth 20000 in
theorem gL_law_L_least : GoodIn wsL_law (va_wsS RL 152 yL_least wsL_least) := goodIn_app (goodIn_of _ (by decide +kernel)) ggL_law_L_least
set_option maxRecDepth 20000 in
theorem ggL_law_X12_least : GoodIn wsL_law wsX12_least := goodIn_r _ [1184, 206, 174, 439, 440, 5, 441, 400, 401, 402, 403, 1159, 1160, 1161, 1162, 823, 824, 825, 826, 835, 836, 837, 838, 180, 839, 840, 841, 842, 843, 844, 845, 846, 847, 543, 544, 545, 546, 848, 849, 850, 851, 852, 853, 854, 855, 181, 182, 856, 857, 858, 859, 645, 663, 664, 665, 666, 647, 646, 667, 668, 669, 670, 671, 672, 446, 447, 448, 449, 450, 451, 673, 674, 675, 860, 861, 862, 863, 864, 865, 866, 867, 395, 868, 869, 870, 871, 872, 873, 874, 875, 876, 877, 878, 879, 880, 881, 882, 883, 884, 885, 886, 887, 888, 889, 890, 891, 1185, 1186, 1187, 1163, 1164, 1165, 1166, 1127, 1125, 1129, 1130, 1131, 1132, 1128, 1126, 819, 820, 821, 822, 1009, 1010, 1011, 1012, 183, 648, 649, 650, 651, 656, 657, 658, 659, 660, 661, 662, 652, 653, 654, 655, 1133, 1134, 1135, 1136, 1137, 589, 590, 591, 592, 978, 979, 980, 981, 982, 186, 1138, 1139, 1140, 1141, 184, 983, 984, 985, 986, 185, 987, 988, 989, 990, 1142, 1143, 1144, 1145, 831, 832, 833, 834, 892, 893, 894, 895, 896, 897, 898, 899, 900, 901, 902, 903, 1406, 1407, 1408, 1409, 1410, 1411, 1412, 1413, 1414, 1415, 1416, 1417, 1418, 1419, 1420, 1421, 1422, 1423, 1424, 1425, 1426, 1427, 1428, 1429, 1430, 1431, 1432, 1433, 1434, 1435, 1436, 1437, 1438, 1439, 1440, 1441, 1442, 1443, 1444, 1445, 1446, 1447, 1448, 1449, 1450, 1451, 1452, 1453, 1454, 1455, 1456] (by decide +kernel) (by decide +kernel)
set_option maxRecDepth 20000 in
theorem gL_law_X12_least : GoodIn wsL_law (wsV RL 154 RX12 yX12_least wsX12_least) := goodIn_app (goodIn_of _ (by decide +kernel)) ggL_law_X12_least
set_option maxRecDepth 20000 in
theorem ggL_law_L_chance : GoodIn wsL_law wsL_chance := goodIn_ca (goodIn_r _ [1190, 487, 1191, 1192, 1193, 2, 1194, 492, 493, 20, 494, 499, 1195, 30, 581, 582, 583, 70, 584, 88, 617, 618, 619, 29, 620, 119, 621, 120, 622, 364, 365, 366, 623, 239, 240, 241, 942, 943, 944, 945, 946, 121, 947, 948, 949, 625, 626, 627, 628, 629, 630, 227, 228, 229, 631, 632, 633, 634, 635, 636, 1196, 1117, 1118, 1119, 935, 937, 938, 939, 940, 941, 1197, 1198, 1199, 1200, 797, 798, 1393, 1394, 1395, 1396, 1397, 1398, 1399, 1400, 1401, 1402, 1403, 1404, 1405, 1457, 1458, 1459, 1460, 1461, 1503, 1504, 1505, 1506, 1507, 1508, 1509, 1510, 1511, 1512, 1513, 1514, 1518, 1519, 1520, 1521, 1469, 1470, 1471] (by decide +kernel) (by decide +kernel)) (goodIn_sub (fun _ h => List.mem_append_right _ h) (by decide +kernel))
set_option maxRecDepth 20000 in
theorem gL_law_L_chance : GoodIn wsL_law (va_wsS RL 155 yL_chance wsL_chance) := goodIn_app (goodIn_of _ (by decide +kernel)) ggL_law_L_chance
set_option maxRecDepth 20000 in
theorem ggL_law_X12_chance : GoodIn wsL_law wsX12_chance := goodIn_r _ [1204, 206, 1137, 439, 440, 5, 441, 400, 401, 402, 403, 589, 590, 591, 592, 174, 978, 979, 980, 981, 982, 183, 186, 648, 649, 650, 651, 652, 653, 654, 655, 656, 657, 658, 659, 660, 661, 662, 395, 543, 544, 545, 546, 1138, 1139, 1140, 1141, 184, 983, 984, 985, 986, 185, 987, 988, 989, 990, 1142, 1143, 1144, 1145, 1205, 1206, 1207, 1406, 1407, 1408, 1409, 1410, 1411, 1412, 1413, 1414, 1415, 1416, 1417, 1418, 1419, 1420, 1421, 1422, 1423, 1424, 1425, 1426, 1427, 1428, 1429, 1430, 1431, 1432, 1433, 1434, 1435, 1436, 1437, 1438, 1439, 1440, 1441, 1442, 1443, 1444, 1445, 1446, 1447, 1448, 1449, 1450, 1451, 1452, 1453, 1454, 1455, 1456] (by decide +kernel) (by decide +kernel)
set_option maxRecDepth 20000 in
theorem gL_law_X12_chance : GoodIn wsL_law (wsV RL 157 RX12 yX12_chance wsX12_chance) := goodIn_app (goodIn_of _ (by decide +kernel)) ggL_law_X12_chance
set_option maxRecDepth 20000 in
theorem ggL_law_X11_see : GoodIn wsL_law wsX11_see := goodIn_r _ [1211, 20, 502, 220, 1212, 528, 529, 2, 530, 1393, 1394, 1395, 1396, 1397, 1398, 1399, 1400, 1401, 1402, 1403, 1404, 1405, 1457, 1458, 1459, 1460, 1461] (by decide +kernel) (by decide +kernel)
set_option maxRecDepth 20000 in
theorem gL_law_X11_see : GoodIn wsL_law (wsV RL 158 RX11 yX11_see wsX11_see) := goodIn_app (goodIn_of _ (by decide +kernel)) ggL_law_X11_see
set_option maxRecDepth 20000 in
theorem ggL_law_X12_see : GoodIn wsL_law wsX12_see := goodIn_r _ [1216, 206, 397, 175, 176, 439, 440, 5, 441, 815, 816, 817, 818, 177, 1406, 1407, 1408, 1409, 1410, 1411, 1412, 1413, 1414, 1415, 1416, 1417, 1418, 1419, 1420, 1421, 1422, 1423, 1424, 1425, 1426, 1427, 1428, 1429, 1430, 1431, 1432, 1433, 1434, 1435, 1436, 1437, 1438, 1439, 1440, 1441, 1442, 1443, 1444, 1445, 1446, 1447, 1448, 1449, 1450, 1451, 1452, 1453, 1454, 1455, 1456] (by decide +kernel) (by decide +kernel)
set_option maxRecDepth 20000 in
theorem gL_law_X12_see : GoodIn wsL_law (wsV RL 161 RX12 yX12_see wsX12_see) := goodIn_app (goodIn_of _ (by decide +kernel)) ggL_law_X12_see
set_option maxRecDepth 20000 in
theorem ggL_law_L_explained : GoodIn wsL_law wsL_explained := goodIn_ca (goodIn_r _ [1219, 487, 1220, 1221, 1222, 2, 1223, 492, 493, 20, 494, 499, 1195, 38, 1212, 502, 581, 582, 583, 70, 584, 88, 1224, 1225, 1226, 37, 1227, 1228, 126, 1229, 364, 365, 366, 125, 1230, 1231, 1232, 1233, 1234, 1235, 1236, 1237, 1238, 1239, 1240, 1175, 1176, 1177, 1178, 1179, 1180, 1241, 1242, 1243, 1244, 1245, 1246, 1247, 1248, 1393, 1394, 1395, 1396, 1397, 1398, 1399, 1400, 1401, 1402, 1403, 1404, 1405, 1457, 1458, 1459, 1460, 1461, 1503, 1504, 1505, 1506, 1507, 1508, 1509, 1510, 1511, 1512, 1513, 1514, 1518, 1519, 1520, 1521, 1477, 1478] (by decide +kernel) (by decide +kernel)) (goodIn_sub (fun _ h => List.mem_append_right _ h) (by decide +kernel))
set_option maxRecDepth 20000 in
theorem gL_law_L_explained : GoodIn wsL_law (va_wsS RL 162 yL_explained wsL_explained) := goodIn_app (goodIn_of _ (by decide +kernel)) ggL_law_L_explained
set_option maxRecDepth 20000 in
theorem ggL_law_X12_explained : GoodIn wsL_law wsX12_explained := goodIn_r _ [1252, 206, 1137, 1253, 439, 440, 5, 441, 400, 401, 402, 403, 589, 590, 591, 592, 174, 1254, 1255, 1256, 1257, 189, 185, 1138, 1139, 1140, 1141, 184, 1258, 1259, 1260, 1261, 397, 175, 176, 987, 988, 989, 990, 1142, 1143, 1144, 1145, 1406, 1407, 1408, 1409, 1410, 1411, 1412, 1413, 1414, 1415, 1416, 1417, 1418, 1419, 1420, 1421, 1422, 1423, 1424, 1425, 1426, 1427, 1428, 1429, 1430, 1431, 1432, 1433, 1434, 1435, 1436, 1437, 1438, 1439, 1440, 1441, 1442, 1443, 1444, 1445, 1446, 1447, 1448, 1449, 1450, 1451, 1452, 1453, 1454, 1455, 1456] (by decide +kernel) (by decide +kernel)
set_option maxRecDepth 20000 in
theorem gL_law_X12_explained : GoodIn wsL_law (wsV RL 164 RX12 yX12_explained wsX12_explained) := goodIn_app (goodIn_of _ (by decide +kernel)) ggL_law_X12_explained
set_option maxRecDepth 20000 in
theorem ggL_law_L_look : GoodIn wsL_law wsL_look := goodIn_ca (goodIn_r _ [1264, 487, 1265, 1266, 1267, 2, 1268, 492, 493, 20, 494, 499, 1195, 38, 1212, 502, 581, 582, 583, 70, 584, 88, 1224, 1225, 1226, 37, 1227, 1228, 126, 1229, 364, 365, 366, 125, 1230, 1231, 1232, 1233, 1234, 1235, 1236, 1237, 1238, 1239, 1240, 1175, 1176, 1177, 1178, 1179, 1180, 1269, 1270, 1271, 1272, 1273, 1274, 1275, 1276, 1277, 1278, 1279, 1393, 1394, 1395, 1396, 1397, 1398, 1399, 1400, 1401, 1402, 1403, 1404, 1405, 1457, 1458, 1459, 1460, 1461, 1503, 1504, 1505, 1506, 1507, 1508, 1509, 1510, 1511, 1512, 1513, 1514, 1518, 1519, 1520, 1521, 1477, 1478] (by decide +kernel) (by decide +kernel)) (goodIn_sub (fun _ h => List.mem_append_right _ h) (by decide +kernel))
set_option maxRecDepth 20000 in
theorem gL_law_L_look : GoodIn wsL_law (va_wsS RL 165 yL_look wsL_look) := goodIn_app (goodIn_of _ (by decide +kernel)) ggL_law_L_look
set_option maxRecDepth 20000 in
theorem ggL_law_X12_look : GoodIn wsL_law wsX12_look := goodIn_r _ [1283, 206, 1137, 439, 440, 5, 441, 400, 401, 402, 403, 589, 590, 591, 592, 174, 1254, 1255, 1256, 1257, 1253, 189, 185, 1138, 1139, 1140, 1141, 184, 1258, 1259, 1260, 1261, 397, 175, 176, 987, 988, 989, 990, 1142, 1143, 1144, 1145, 1284, 1285, 1286, 1287, 1288, 1289, 1290, 1291, 1406, 1407, 1408, 1409, 1410, 1411, 1412, 1413, 1414, 1415, 1416, 1417, 1418, 1419, 1420, 1421, 1422, 1423, 1424, 1425, 1426, 1427, 1428, 1429, 1430, 1431, 1432, 1433, 1434, 1435, 1436, 1437, 1438, 1439, 1440, 1441, 1442, 1443, 1444, 1445, 1446, 1447, 1448, 1449, 1450, 1451, 1452, 1453, 1454, 1455, 1456] (by decide +kernel) (by decide +kernel)
set_option maxRecDepth 20000 in
theorem gL_law_X12_look : GoodIn wsL_law (wsV RL 167 RX12 yX12_look wsX12_look) := goodIn_app (goodIn_of _ (by decide +kernel)) ggL_law_X12_look
set_option maxRecDepth 20000 in
theorem ggL_law_X11_forget : GoodIn wsL_law wsX11_forget := goodIn_r _ [1295, 20, 502, 1393, 1394, 1395, 1396, 1397, 1398, 1399, 1400, 1401, 1402, 1403, 1404, 1405, 1457, 1458, 1459, 1460, 1461] (by decide +kernel) (by decide +kernel)
set_option maxRecDepth 20000 in
theorem gL_law_X11_forget : GoodIn wsL_law (wsV RL 168 RX11 yX11_forget wsX11_forget) := goodIn_app (goodIn_of _ (by decide +kernel)) ggL_law_X11_forget
set_option maxRecDepth 20000 in
theorem ggL_law_X12_forget : GoodIn wsL_law wsX12_forget := goodIn_r _ [1299, 206, 397, 1406, 1407, 1408, 1409, 1410, 1411, 1412, 1413, 1414, 1415, 1416, 1417, 1418, 1419, 1420, 1421, 1422, 1423, 1424, 1425, 1426, 1427, 1428, 1429, 1430, 1431, 1432, 1433, 1434, 1435, 1436, 1437, 1438, 1439, 1440, 1441, 1442, 1443, 1444, 1445, 1446, 1447, 1448, 1449, 1450, 1451, 1452, 1453, 1454, 1455, 1456] (by decide +kernel) (by decide +kernel)
set_option maxRecDepth 20000 in
theorem gL_law_X12_forget : GoodIn wsL_law (wsV RL 171 RX12 yX12_forget wsX12_forget) := goodIn_app (goodIn_of _ (by decide +kernel)) ggL_law_X12_forget
set_option maxRecDepth 20000 in
theorem ggL_law_L_years : GoodIn wsL_law wsL_years := goodIn_ca (goodIn_ca (goodIn_r _ [1302, 487, 212, 1303, 1304, 1305, 2, 1306, 492, 493, 217, 218, 46, 20, 494, 34, 1307, 499, 527, 1308, 1309, 1310, 1311, 1312, 45, 1313, 144, 149, 150, 151, 1314, 373, 374, 56, 375, 71, 72, 363, 364, 365, 366, 73, 74, 75, 76, 77, 78, 79, 80, 81, 82, 376, 377, 378, 70, 379, 86, 380, 87, 88, 89, 1315, 1316, 1317, 1318, 146, 1319, 1320, 1321, 227, 228, 229, 1322, 1323, 1324, 1325, 1326, 1327, 797, 798, 1328, 732, 733, 734, 684, 685, 686, 687, 692, 693, 694, 25, 695, 100, 104, 105, 696, 604, 605, 606, 697, 698, 699, 700, 334, 335, 701, 702, 703, 704, 101, 102, 103, 705, 706, 707, 708, 615, 616, 709, 710, 711, 712, 713, 714, 715, 716, 107, 717, 608, 609, 33, 610, 113, 111, 114, 115, 112, 611, 612, 613, 614, 735, 736, 737, 738, 739, 740, 741, 742, 743, 744, 745, 746, 747, 748, 749, 750, 751, 752, 753, 754, 755, 756, 757, 758, 759, 760, 761, 762, 763, 764, 765, 766, 767, 768, 769, 770, 771, 772, 773, 774, 775, 776, 777, 778, 779, 780, 781, 782, 783, 784, 785, 786, 787, 788, 789, 790, 791, 792, 793, 794, 795, 796, 799, 800, 801, 802, 803, 804, 805, 806, 807, 808, 809, 810, 1329, 1330, 1331, 1332, 1333, 1334, 148, 1335, 618, 619, 29, 620, 119, 621, 120, 622, 623, 239, 240, 241, 1336, 938, 939, 940, 935, 941, 1337, 943, 944, 945, 946, 121, 947, 948, 949, 625, 626, 627, 628, 629, 630, 631, 632, 633, 634, 635, 636, 1338, 951, 952, 953, 954, 955, 956, 957, 958, 959, 960, 961, 360, 361, 362, 1339, 1340, 1341, 1342, 999, 356, 357, 358, 1343, 1028, 1029, 1030, 607, 1174, 1175, 1176, 1177, 1178, 1179, 1180, 1393, 1394, 1395, 1396, 1397, 1398, 1399, 1400, 1401, 1402, 1403, 1404, 1405, 1457, 1458, 1459, 1460, 1461, 1486, 1487, 1488, 1489, 1490, 1491, 1503, 1504, 1505, 1506, 1507, 1508, 1509, 1510, 1511, 1512, 1513, 1514, 1518, 1519, 1520, 1521, 1472, 1473, 1474, 1475, 1476, 1462, 1463, 1464, 1465, 1466, 1467, 1468, 1469, 1470, 1471] (by decide +kernel) (by decide +kernel)) (goodIn_sub (fun _ h => List.mem_append_right _ h) (by decide +kernel))) (goodIn_sub (fun _ h => List.mem_append_left _ (List.mem_append_right _ h)) (by decide +kernel))
set_option maxRecDepth 20000 in
theorem gL_law_L_years : GoodIn wsL_law (va_wsS RL 172 yL_years wsL_years) := goodIn_app (goodIn_of _ (by decide +kernel)) ggL_law_L_years
set_option maxRecDepth 20000 in
theorem ggL_law_X12_years : GoodIn wsL_law wsX12_years := goodIn_r _ [1347, 206, 1348, 1349, 174, 183, 439, 440, 5, 441, 400, 401, 402, 403, 819, 820, 821, 822, 823, 824, 825, 826, 1350, 1351, 1352, 1353, 1354, 1355, 1356, 1357, 1358, 827, 828, 829, 830, 831, 832, 833, 834, 835, 836, 837, 838, 180, 839, 840, 841, 842, 843, 844, 845, 846, 847, 543, 544, 545, 546, 848, 849, 850, 851, 852, 853, 854, 855, 181, 182, 856, 857, 858, 859, 645, 663, 664, 665, 666, 647, 646, 667, 668, 669, 670, 671, 672, 446, 447, 448, 449, 450, 451, 673, 674, 675, 860, 861, 862, 863, 864, 865, 866, 867, 395, 868, 869, 870, 871, 872, 873, 874, 875, 876, 877, 878, 879, 880, 881, 882, 883, 884, 885, 886, 887, 888, 889, 890, 891, 892, 893, 894, 895, 896, 897, 898, 899, 900, 901, 902, 903, 1359, 1360, 1361, 1362, 184, 974, 975, 976, 977, 185, 978, 979, 980, 981, 982, 186, 648, 649, 650, 651, 652, 653, 654, 655, 656, 657, 658, 659, 660, 661, 662, 983, 984, 985, 986, 987, 988, 989, 990, 1038, 1039, 1040, 1041, 1185, 1186, 1187, 1406, 1407, 1408, 1409, 1410, 1411, 1412, 1413, 1414, 1415, 1416, 1417, 1418, 1419, 1420, 1421, 1422, 1423, 1424, 1425, 1426, 1427, 1428, 1429, 1430, 1431, 1432, 1433, 1434, 1435, 1436, 1437, 1438, 1439, 1440, 1441, 1442, 1443, 1444, 1445, 1446, 1447, 1448, 1449, 1450, 1451, 1452, 1453, 1454, 1455, 1456] (by decide +kernel) (by decide +kernel)
set_option maxRecDepth 20000 in
theorem gL_law_X12_years : GoodIn wsL_law (wsV RL 174 RX12 yX12_years wsX12_years) := goodIn_app (goodIn_of _ (by decide +kernel)) ggL_law_X12_years
set_option maxRecDepth 20000 in
theorem ggL_law_X11_image : GoodIn wsL_law wsX11_image := goodIn_r _ [1366, 21, 17, 18, 19, 20, 22, 51, 52, 53, 11, 12, 54, 55, 56, 57, 58, 59, 60, 61, 13, 62, 63, 64, 65, 66, 67, 68, 69, 70, 71, 72, 73, 74, 75, 76, 77, 78, 79, 80, 81, 82, 83, 84, 85, 86, 87, 88, 89, 90, 91, 92, 93, 94, 95, 96, 1367, 1368, 1369, 1370, 1371, 364, 365, 366, 372, 373, 374, 375, 363, 376, 377, 378, 379, 380, 1372, 1373, 1374, 1375, 726, 727, 728, 729, 730, 1393, 1394, 1395, 1396, 1397, 1398, 1399, 1400, 1401, 1402, 1403, 1404, 1405, 1457, 1458, 1459, 1460, 1461, 1503, 1504, 1505, 1506, 1507, 1508, 1509, 1510, 1511, 1512, 1513, 1514, 1515, 1516, 1517, 1518, 1519, 1520, 1521] (by decide +kernel) (by decide +kernel)
set_option maxRecDepth 20000 in
theorem gL_law_X11_image : GoodIn wsL_law (wsV RL 175 RX11 yX11_image wsX11_image) := goodIn_app (goodIn_of _ (by decide +kernel)) ggL_law_X11_image
set_option maxRecDepth 20000 in
theorem ggL_law_X12_image : GoodIn wsL_law wsX12_image := goodIn_r _ [1379, 206, 1380, 1381, 399, 1382, 398, 1383, 397, 1384, 175, 176, 177, 396, 823, 824, 825, 5, 826, 174, 1406, 1407, 1408, 1409, 1410, 1411, 1412, 1413, 1414, 1415, 1416, 1417, 1418, 1419, 1420, 1421, 1422, 1423, 1424, 1425, 1426, 1427, 1428, 1429, 1430, 1431, 1432, 1433, 1434, 1435, 1436, 1437, 1438, 1439, 1440, 1441, 1442, 1443, 1444, 1445, 1446, 1447, 1448, 1449, 1450, 1451, 1452, 1453, 1454, 1455, 1456] (by decide +kernel) (by decide +kernel)
set_option maxRecDepth 20000 in
theorem gL_law_X12_image : GoodIn wsL_law (wsV RL 178 RX12 yX12_image wsX12_image) := goodIn_app (goodIn_of _ (by decide +kernel)) ggL_law_X12_image
set_option maxRecDepth 20000 in
theorem ggL_law_X11_restore : GoodIn wsL_law wsX11_restore := goodIn_r _ [1388, 22, 21, 20, 1367, 1368, 1369, 19, 1370, 57, 61, 62, 1371, 364, 365, 366, 63, 64, 372, 373, 374, 56, 375, 71, 72, 363, 73, 74, 75, 76, 77, 78, 79, 80, 81, 82, 376, 377, 378, 70, 379, 86, 380, 87, 88, 89, 1372, 1373, 1374, 60, 1375, 95, 96, 726, 727, 728, 729, 94, 93, 55, 65, 66, 67, 11, 12, 68, 69, 13, 83, 84, 85, 730, 1393, 1394, 1395, 1396, 1397, 1398, 1399, 1400, 1401, 1402, 1403, 1404, 1405, 1457, 1458, 1459, 1460, 1461, 1503, 1504, 1505, 1506, 1507, 1508, 1509, 1510, 1511, 1512, 1513, 1514, 1518, 1519, 1520, 1521, 1515, 1516, 1517] (by decide +kernel) (by decide +kernel)
set_option maxRecDepth 20000 in
theorem gL_law_X11_restore : GoodIn wsL_law (wsV RL 179 RX11 yX11_restore wsX11_restore) := goodIn_app (goodIn_of _ (by decide +kernel)) ggL_law_X11_restore
set_option maxRecDepth 20000 in
theorem ggL_law_X12_restore : GoodIn wsL_law wsX12_restore := goodIn_r _ [1392, 206, 396, 1380, 1381, 1382, 399, 1383, 398, 1384, 397, 175, 176, 177, 823, 824, 825, 5, 826, 174, 1406, 1407, 1408, 1409, 1410, 1411, 1412, 1413, 1414, 1415, 1416, 1417, 1418, 1419, 1420, 1421, 1422, 1423, 1424, 1425, 1426, 1427, 1428, 1429, 1430, 1431, 1432, 1433, 1434, 1435, 1436, 1437, 1438, 1439, 1440, 1441, 1442, 1443, 1444, 1445, 1446, 1447, 1448, 1449, 1450, 1451, 1452, 1453, 1454, 1455, 1456] (by decide +kernel) (by decide +kernel)
set_option maxRecDepth 20000 in
theorem gL_law_X12_restore : GoodIn wsL_law (wsV RL 183 RX12 yX12_restore wsX12_restore) := goodIn_app (goodIn_of _ (by decide +kernel)) ggL_law_X12_restore
theorem dL_law_0 : decode cL_law 0 = .ok (.new 8, 3) := by decide +kernel
theorem dL_law_3 : decode cL_law 3 = .ok (.dup, 1) := by decide +kernel
theorem dL_law_4 : decode cL_law 4 = .ok (.invokespecial 68, 3) := by decide +kernel
theorem dL_law_7 : decode cL_law 7 = .ok (.astore_n 1, 1) := by decide +kernel
theorem dL_law_8 : decode cL_law 8 = .ok (.new 69, 3) := by decide +kernel
theorem dL_law_11 : decode cL_law 11 = .ok (.dup, 1) := by decide +kernel
theorem dL_law_12 : decode cL_law 12 = .ok (.invokespecial 71, 3) := by decide +kernel
theorem dL_law_15 : decode cL_law 15 = .ok (.astore_n 2, 1) := by decide +kernel
theorem dL_law_16 : decode cL_law 16 = .ok (.iconst 1, 1) := by decide +kernel
theorem dL_law_17 : decode cL_law 17 = .ok (.newarray .long, 2) := by decide +kernel
theorem dL_law_19 : decode cL_law 19 = .ok (.astore_n 3, 1) := by decide +kernel
theorem dL_law_20 : decode cL_law 20 = .ok (.iconst 0, 1) := by decide +kernel
theorem dL_law_21 : decode cL_law 21 = .ok (.istore 4, 2) := by decide +kernel
theorem dL_law_23 : decode cL_law 23 = .ok (.iload 4, 2) := by decide +kernel
theorem dL_law_25 : decode cL_law 25 = .ok (.aload_n 0, 1) := by decide +kernel
theorem dL_law_26 : decode cL_law 26 = .ok (.arraylength, 1) := by decide +kernel
theorem dL_law_27 : decode cL_law 27 = .ok (.bipush 6, 2) := by decide +kernel
theorem dL_law_29 : decode cL_law 29 = .ok (.isub, 1) := by decide +kernel
theorem dL_law_30 : decode cL_law 30 = .ok (.if_icmp .gt 1497, 3) := by decide +kernel
theorem dL_law_33 : decode cL_law 33 = .ok (.aload_n 0, 1) := by decide +kernel
theorem dL_law_34 : decode cL_law 34 = .ok (.iload 4, 2) := by decide +kernel
theorem dL_law_36 : decode cL_law 36 = .ok (.iaload, 1) := by decide +kernel
theorem dL_law_37 : decode cL_law 37 = .ok (.bipush 31, 2) := by decide +kernel
theorem dL_law_39 : decode cL_law 39 = .ok (.iand, 1) := by decide +kernel
theorem dL_law_40 : decode cL_law 40 = .ok (.tableswitch 1481 0 28 #[132, 205, 261, 274, 330, 414, 482, 550, 564, 632, 657, 725, 750, 763, 843, 899, 912, 980, 1036, 1092, 1105, 1161, 1217, 1254, 1310, 1366, 1377, 1457, 1468], 132) := by decide +kernel
theorem dL_law_172 : decode cL_law 172 = .ok (.aload_n 1, 1) := by decide +kernel
theorem dL_law_173 : decode cL_law 173 = .ok (.aload_n 0, 1) := by decide +kernel
theorem dL_law_174 : decode cL_law 174 = .ok (.iload 4, 2) := by decide +kernel
theorem dL_law_176 : decode cL_law 176 = .ok (.iconst 1, 1) := by decide +kernel
theorem dL_law_177 : decode cL_law 177 = .ok (.iadd, 1) := by decide +kernel
theorem dL_law_178 : decode cL_law 178 = .ok (.iaload, 1) := by decide +kernel
theorem dL_law_179 : decode cL_law 179 = .ok (.aload_n 0, 1) := by decide +kernel
theorem dL_law_180 : decode cL_law 180 = .ok (.iload 4, 2) := by decide +kernel
theorem dL_law_182 : decode cL_law 182 = .ok (.iconst 2, 1) := by decide +kernel
theorem dL_law_183 : decode cL_law 183 = .ok (.iadd, 1) := by decide +kernel
theorem dL_law_184 : decode cL_law 184 = .ok (.iaload, 1) := by decide +kernel
theorem dL_law_185 : decode cL_law 185 = .ok (.aload_n 0, 1) := by decide +kernel
theorem dL_law_186 : decode cL_law 186 = .ok (.iload 4, 2) := by decide +kernel
theorem dL_law_188 : decode cL_law 188 = .ok (.iconst 3, 1) := by decide +kernel
theorem dL_law_189 : decode cL_law 189 = .ok (.iadd, 1) := by decide +kernel
theorem dL_law_190 : decode cL_law 190 = .ok (.iaload, 1) := by decide +kernel
theorem dL_law_191 : decode cL_law 191 = .ok (.aload_n 0, 1) := by decide +kernel
theorem dL_law_192 : decode cL_law 192 = .ok (.iload 4, 2) := by decide +kernel
theorem dL_law_194 : decode cL_law 194 = .ok (.iconst 4, 1) := by decide +kernel
theorem dL_law_195 : decode cL_law 195 = .ok (.iadd, 1) := by decide +kernel
theorem dL_law_196 : decode cL_law 196 = .ok (.iaload, 1) := by decide +kernel
theorem dL_law_197 : decode cL_law 197 = .ok (.aload_n 0, 1) := by decide +kernel
theorem dL_law_198 : decode cL_law 198 = .ok (.iload 4, 2) := by decide +kernel
theorem dL_law_200 : decode cL_law 200 = .ok (.iconst 5, 1) := by decide +kernel
theorem dL_law_201 : decode cL_law 201 = .ok (.iadd, 1) := by decide +kernel
theorem dL_law_202 : decode cL_law 202 = .ok (.iaload, 1) := by decide +kernel
theorem dL_law_203 : decode cL_law 203 = .ok (.invokevirtual 72, 3) := by decide +kernel
theorem dL_law_206 : decode cL_law 206 = .ok (.aload_n 2, 1) := by decide +kernel
theorem dL_law_207 : decode cL_law 207 = .ok (.aload_n 0, 1) := by decide +kernel
theorem dL_law_208 : decode cL_law 208 = .ok (.iload 4, 2) := by decide +kernel
theorem dL_law_210 : decode cL_law 210 = .ok (.iconst 1, 1) := by decide +kernel
theorem dL_law_211 : decode cL_law 211 = .ok (.iadd, 1) := by decide +kernel
theorem dL_law_212 : decode cL_law 212 = .ok (.iaload, 1) := by decide +kernel
theorem dL_law_213 : decode cL_law 213 = .ok (.aload_n 0, 1) := by decide +kernel
theorem dL_law_214 : decode cL_law 214 = .ok (.iload 4, 2) := by decide +kernel
theorem dL_law_216 : decode cL_law 216 = .ok (.iconst 2, 1) := by decide +kernel
theorem dL_law_217 : decode cL_law 217 = .ok (.iadd, 1) := by decide +kernel
theorem dL_law_218 : decode cL_law 218 = .ok (.iaload, 1) := by decide +kernel
theorem dL_law_219 : decode cL_law 219 = .ok (.aload_n 0, 1) := by decide +kernel
theorem dL_law_220 : decode cL_law 220 = .ok (.iload 4, 2) := by decide +kernel
theorem dL_law_222 : decode cL_law 222 = .ok (.iconst 3, 1) := by decide +kernel
theorem dL_law_223 : decode cL_law 223 = .ok (.iadd, 1) := by decide +kernel
theorem dL_law_224 : decode cL_law 224 = .ok (.iaload, 1) := by decide +kernel
theorem dL_law_225 : decode cL_law 225 = .ok (.aload_n 0, 1) := by decide +kernel
theorem dL_law_226 : decode cL_law 226 = .ok (.iload 4, 2) := by decide +kernel
theorem dL_law_228 : decode cL_law 228 = .ok (.iconst 4, 1) := by decide +kernel
theorem dL_law_229 : decode cL_law 229 = .ok (.iadd, 1) := by decide +kernel
theorem dL_law_230 : decode cL_law 230 = .ok (.iaload, 1) := by decide +kernel
theorem dL_law_231 : decode cL_law 231 = .ok (.aload_n 0, 1) := by decide +kernel
theorem dL_law_232 : decode cL_law 232 = .ok (.iload 4, 2) := by decide +kernel
theorem dL_law_234 : decode cL_law 234 = .ok (.iconst 5, 1) := by decide +kernel
theorem dL_law_235 : decode cL_law 235 = .ok (.iadd, 1) := by decide +kernel
theorem dL_law_236 : decode cL_law 236 = .ok (.iaload, 1) := by decide +kernel
theorem dL_law_237 : decode cL_law 237 = .ok (.invokevirtual 76, 3) := by decide +kernel
theorem dL_law_240 : decode cL_law 240 = .ok (.if_icmp .eq 1281, 3) := by decide +kernel
theorem dL_law_243 : decode cL_law 243 = .ok (.iconst 0, 1) := by decide +kernel
theorem dL_law_244 : decode cL_law 244 = .ok (.ireturn, 1) := by decide +kernel
theorem dL_law_245 : decode cL_law 245 = .ok (.aload_n 1, 1) := by decide +kernel
theorem dL_law_246 : decode cL_law 246 = .ok (.aload_n 0, 1) := by decide +kernel
theorem dL_law_247 : decode cL_law 247 = .ok (.iload 4, 2) := by decide +kernel
theorem dL_law_249 : decode cL_law 249 = .ok (.iconst 1, 1) := by decide +kernel
theorem dL_law_250 : decode cL_law 250 = .ok (.iadd, 1) := by decide +kernel
theorem dL_law_251 : decode cL_law 251 = .ok (.iaload, 1) := by decide +kernel
theorem dL_law_252 : decode cL_law 252 = .ok (.aload_n 3, 1) := by decide +kernel
theorem dL_law_253 : decode cL_law 253 = .ok (.invokestatic 77, 3) := by decide +kernel
theorem dL_law_256 : decode cL_law 256 = .ok (.istore 5, 2) := by decide +kernel
theorem dL_law_258 : decode cL_law 258 = .ok (.aload_n 2, 1) := by decide +kernel
theorem dL_law_259 : decode cL_law 259 = .ok (.aload_n 0, 1) := by decide +kernel
theorem dL_law_260 : decode cL_law 260 = .ok (.iload 4, 2) := by decide +kernel
theorem dL_law_262 : decode cL_law 262 = .ok (.iconst 1, 1) := by decide +kernel
theorem dL_law_263 : decode cL_law 263 = .ok (.iadd, 1) := by decide +kernel
theorem dL_law_264 : decode cL_law 264 = .ok (.iaload, 1) := by decide +kernel
theorem dL_law_265 : decode cL_law 265 = .ok (.invokevirtual 82, 3) := by decide +kernel
theorem dL_law_268 : decode cL_law 268 = .ok (.istore 6, 2) := by decide +kernel
theorem dL_law_270 : decode cL_law 270 = .ok (.aload_n 2, 1) := by decide +kernel
theorem dL_law_271 : decode cL_law 271 = .ok (.invokevirtual 83, 3) := by decide +kernel
theorem dL_law_274 : decode cL_law 274 = .ok (.iload 5, 2) := by decide +kernel
theorem dL_law_276 : decode cL_law 276 = .ok (.if_icmp .eq 5, 3) := by decide +kernel
theorem dL_law_279 : decode cL_law 279 = .ok (.iconst 0, 1) := by decide +kernel
theorem dL_law_280 : decode cL_law 280 = .ok (.ireturn, 1) := by decide +kernel
theorem dL_law_281 : decode cL_law 281 = .ok (.iload 5, 2) := by decide +kernel
theorem dL_law_283 : decode cL_law 283 = .ok (.ifCond .ne 15, 3) := by decide +kernel
theorem dL_law_286 : decode cL_law 286 = .ok (.aload_n 3, 1) := by decide +kernel
theorem dL_law_287 : decode cL_law 287 = .ok (.iconst 0, 1) := by decide +kernel
theorem dL_law_288 : decode cL_law 288 = .ok (.laload, 1) := by decide +kernel
theorem dL_law_289 : decode cL_law 289 = .ok (.iload 6, 2) := by decide +kernel
theorem dL_law_291 : decode cL_law 291 = .ok (.i2l, 1) := by decide +kernel
theorem dL_law_292 : decode cL_law 292 = .ok (.lcmp, 1) := by decide +kernel
theorem dL_law_293 : decode cL_law 293 = .ok (.ifCond .eq 5, 3) := by decide +kernel
theorem dL_law_296 : decode cL_law 296 = .ok (.iconst 0, 1) := by decide +kernel
theorem dL_law_297 : decode cL_law 297 = .ok (.ireturn, 1) := by decide +kernel
theorem dL_law_298 : decode cL_law 298 = .ok (.goto 1223, 3) := by decide +kernel
theorem dL_law_301 : decode cL_law 301 = .ok (.aload_n 1, 1) := by decide +kernel
theorem dL_law_302 : decode cL_law 302 = .ok (.invokevirtual 87, 3) := by decide +kernel
theorem dL_law_305 : decode cL_law 305 = .ok (.aload_n 2, 1) := by decide +kernel
theorem dL_law_306 : decode cL_law 306 = .ok (.invokevirtual 90, 3) := by decide +kernel
theorem dL_law_309 : decode cL_law 309 = .ok (.if_icmp .eq 1212, 3) := by decide +kernel
theorem dL_law_312 : decode cL_law 312 = .ok (.iconst 0, 1) := by decide +kernel
theorem dL_law_313 : decode cL_law 313 = .ok (.ireturn, 1) := by decide +kernel
theorem dL_law_314 : decode cL_law 314 = .ok (.aload_n 1, 1) := by decide +kernel
theorem dL_law_315 : decode cL_law 315 = .ok (.aload_n 0, 1) := by decide +kernel
theorem dL_law_316 : decode cL_law 316 = .ok (.iload 4, 2) := by decide +kernel
theorem dL_law_318 : decode cL_law 318 = .ok (.iconst 1, 1) := by decide +kernel
theorem dL_law_319 : decode cL_law 319 = .ok (.iadd, 1) := by decide +kernel
theorem dL_law_320 : decode cL_law 320 = .ok (.iaload, 1) := by decide +kernel
theorem dL_law_321 : decode cL_law 321 = .ok (.aload_n 3, 1) := by decide +kernel
theorem dL_law_322 : decode cL_law 322 = .ok (.invokestatic 91, 3) := by decide +kernel
theorem dL_law_325 : decode cL_law 325 = .ok (.istore 5, 2) := by decide +kernel
theorem dL_law_327 : decode cL_law 327 = .ok (.aload_n 2, 1) := by decide +kernel
theorem dL_law_328 : decode cL_law 328 = .ok (.aload_n 0, 1) := by decide +kernel
theorem dL_law_329 : decode cL_law 329 = .ok (.iload 4, 2) := by decide +kernel
theorem dL_law_331 : decode cL_law 331 = .ok (.iconst 1, 1) := by decide +kernel
theorem dL_law_332 : decode cL_law 332 = .ok (.iadd, 1) := by decide +kernel
theorem dL_law_333 : decode cL_law 333 = .ok (.iaload, 1) := by decide +kernel
theorem dL_law_334 : decode cL_law 334 = .ok (.invokevirtual 93, 3) := by decide +kernel
theorem dL_law_337 : decode cL_law 337 = .ok (.istore 6, 2) := by decide +kernel
theorem dL_law_339 : decode cL_law 339 = .ok (.aload_n 2, 1) := by decide +kernel
theorem dL_law_340 : decode cL_law 340 = .ok (.invokevirtual 83, 3) := by decide +kernel
theorem dL_law_343 : decode cL_law 343 = .ok (.iload 5, 2) := by decide +kernel
theorem dL_law_345 : decode cL_law 345 = .ok (.if_icmp .eq 5, 3) := by decide +kernel
theorem dL_law_348 : decode cL_law 348 = .ok (.iconst 0, 1) := by decide +kernel
theorem dL_law_349 : decode cL_law 349 = .ok (.ireturn, 1) := by decide +kernel
theorem dL_law_350 : decode cL_law 350 = .ok (.iload 5, 2) := by decide +kernel
theorem dL_law_352 : decode cL_law 352 = .ok (.ifCond .ne 15, 3) := by decide +kernel
theorem dL_law_355 : decode cL_law 355 = .ok (.aload_n 3, 1) := by decide +kernel
theorem dL_law_356 : decode cL_law 356 = .ok (.iconst 0, 1) := by decide +kernel
theorem dL_law_357 : decode cL_law 357 = .ok (.laload, 1) := by decide +kernel
theorem dL_law_358 : decode cL_law 358 = .ok (.iload 6, 2) := by decide +kernel
theorem dL_law_360 : decode cL_law 360 = .ok (.i2l, 1) := by decide +kernel
theorem dL_law_361 : decode cL_law 361 = .ok (.lcmp, 1) := by decide +kernel
theorem dL_law_362 : decode cL_law 362 = .ok (.ifCond .eq 5, 3) := by decide +kernel
theorem dL_law_365 : decode cL_law 365 = .ok (.iconst 0, 1) := by decide +kernel
theorem dL_law_366 : decode cL_law 366 = .ok (.ireturn, 1) := by decide +kernel
theorem dL_law_367 : decode cL_law 367 = .ok (.goto 1154, 3) := by decide +kernel
theorem dL_law_370 : decode cL_law 370 = .ok (.aload_n 1, 1) := by decide +kernel
theorem dL_law_371 : decode cL_law 371 = .ok (.aload_n 0, 1) := by decide +kernel
theorem dL_law_372 : decode cL_law 372 = .ok (.iload 4, 2) := by decide +kernel
theorem dL_law_374 : decode cL_law 374 = .ok (.iconst 1, 1) := by decide +kernel
theorem dL_law_375 : decode cL_law 375 = .ok (.iadd, 1) := by decide +kernel
theorem dL_law_376 : decode cL_law 376 = .ok (.iaload, 1) := by decide +kernel
theorem dL_law_377 : decode cL_law 377 = .ok (.aload_n 0, 1) := by decide +kernel
theorem dL_law_378 : decode cL_law 378 = .ok (.iload 4, 2) := by decide +kernel
theorem dL_law_380 : decode cL_law 380 = .ok (.iconst 2, 1) := by decide +kernel
theorem dL_law_381 : decode cL_law 381 = .ok (.iadd, 1) := by decide +kernel
theorem dL_law_382 : decode cL_law 382 = .ok (.iaload, 1) := by decide +kernel
theorem dL_law_383 : decode cL_law 383 = .ok (.ifCond .eq 7, 3) := by decide +kernel
theorem dL_law_386 : decode cL_law 386 = .ok (.iconst 1, 1) := by decide +kernel
theorem dL_law_387 : decode cL_law 387 = .ok (.goto 4, 3) := by decide +kernel
theorem dL_law_390 : decode cL_law 390 = .ok (.iconst 0, 1) := by decide +kernel
theorem dL_law_391 : decode cL_law 391 = .ok (.aload_n 3, 1) := by decide +kernel
theorem dL_law_392 : decode cL_law 392 = .ok (.invokestatic 94, 3) := by decide +kernel
theorem dL_law_395 : decode cL_law 395 = .ok (.istore 5, 2) := by decide +kernel
theorem dL_law_397 : decode cL_law 397 = .ok (.aload_n 2, 1) := by decide +kernel
theorem dL_law_398 : decode cL_law 398 = .ok (.aload_n 0, 1) := by decide +kernel
theorem dL_law_399 : decode cL_law 399 = .ok (.iload 4, 2) := by decide +kernel
theorem dL_law_401 : decode cL_law 401 = .ok (.iconst 1, 1) := by decide +kernel
theorem dL_law_402 : decode cL_law 402 = .ok (.iadd, 1) := by decide +kernel
theorem dL_law_403 : decode cL_law 403 = .ok (.iaload, 1) := by decide +kernel
theorem dL_law_404 : decode cL_law 404 = .ok (.aload_n 0, 1) := by decide +kernel
theorem dL_law_405 : decode cL_law 405 = .ok (.iload 4, 2) := by decide +kernel
theorem dL_law_407 : decode cL_law 407 = .ok (.iconst 2, 1) := by decide +kernel
theorem dL_law_408 : decode cL_law 408 = .ok (.iadd, 1) := by decide +kernel
theorem dL_law_409 : decode cL_law 409 = .ok (.iaload, 1) := by decide +kernel
theorem dL_law_410 : decode cL_law 410 = .ok (.ifCond .eq 7, 3) := by decide +kernel
theorem dL_law_413 : decode cL_law 413 = .ok (.iconst 1, 1) := by decide +kernel
theorem dL_law_414 : decode cL_law 414 = .ok (.goto 4, 3) := by decide +kernel
theorem dL_law_417 : decode cL_law 417 = .ok (.iconst 0, 1) := by decide +kernel
theorem dL_law_418 : decode cL_law 418 = .ok (.invokevirtual 97, 3) := by decide +kernel
theorem dL_law_421 : decode cL_law 421 = .ok (.istore 6, 2) := by decide +kernel
theorem dL_law_423 : decode cL_law 423 = .ok (.aload_n 2, 1) := by decide +kernel
theorem dL_law_424 : decode cL_law 424 = .ok (.invokevirtual 83, 3) := by decide +kernel
theorem dL_law_427 : decode cL_law 427 = .ok (.iload 5, 2) := by decide +kernel
theorem dL_law_429 : decode cL_law 429 = .ok (.if_icmp .eq 5, 3) := by decide +kernel
theorem dL_law_432 : decode cL_law 432 = .ok (.iconst 0, 1) := by decide +kernel
theorem dL_law_433 : decode cL_law 433 = .ok (.ireturn, 1) := by decide +kernel
theorem dL_law_434 : decode cL_law 434 = .ok (.iload 5, 2) := by decide +kernel
theorem dL_law_436 : decode cL_law 436 = .ok (.ifCond .ne 15, 3) := by decide +kernel
theorem dL_law_439 : decode cL_law 439 = .ok (.aload_n 3, 1) := by decide +kernel
theorem dL_law_440 : decode cL_law 440 = .ok (.iconst 0, 1) := by decide +kernel
theorem dL_law_441 : decode cL_law 441 = .ok (.laload, 1) := by decide +kernel
theorem dL_law_442 : decode cL_law 442 = .ok (.iload 6, 2) := by decide +kernel
theorem dL_law_444 : decode cL_law 444 = .ok (.i2l, 1) := by decide +kernel
theorem dL_law_445 : decode cL_law 445 = .ok (.lcmp, 1) := by decide +kernel
theorem dL_law_446 : decode cL_law 446 = .ok (.ifCond .eq 5, 3) := by decide +kernel
theorem dL_law_449 : decode cL_law 449 = .ok (.iconst 0, 1) := by decide +kernel
theorem dL_law_450 : decode cL_law 450 = .ok (.ireturn, 1) := by decide +kernel
theorem dL_law_451 : decode cL_law 451 = .ok (.goto 1070, 3) := by decide +kernel
theorem dL_law_454 : decode cL_law 454 = .ok (.aload_n 1, 1) := by decide +kernel
theorem dL_law_455 : decode cL_law 455 = .ok (.aload_n 0, 1) := by decide +kernel
theorem dL_law_456 : decode cL_law 456 = .ok (.iload 4, 2) := by decide +kernel
theorem dL_law_458 : decode cL_law 458 = .ok (.iconst 1, 1) := by decide +kernel
theorem dL_law_459 : decode cL_law 459 = .ok (.iadd, 1) := by decide +kernel
theorem dL_law_460 : decode cL_law 460 = .ok (.iaload, 1) := by decide +kernel
theorem dL_law_461 : decode cL_law 461 = .ok (.aload_n 0, 1) := by decide +kernel
theorem dL_law_462 : decode cL_law 462 = .ok (.iload 4, 2) := by decide +kernel
theorem dL_law_464 : decode cL_law 464 = .ok (.iconst 2, 1) := by decide +kernel
theorem dL_law_465 : decode cL_law 465 = .ok (.iadd, 1) := by decide +kernel
theorem dL_law_466 : decode cL_law 466 = .ok (.iaload, 1) := by decide +kernel
theorem dL_law_467 : decode cL_law 467 = .ok (.aload_n 3, 1) := by decide +kernel
theorem dL_law_468 : decode cL_law 468 = .ok (.invokestatic 98, 3) := by decide +kernel
theorem dL_law_471 : decode cL_law 471 = .ok (.istore 5, 2) := by decide +kernel
theorem dL_law_473 : decode cL_law 473 = .ok (.aload_n 2, 1) := by decide +kernel
theorem dL_law_474 : decode cL_law 474 = .ok (.aload_n 0, 1) := by decide +kernel
theorem dL_law_475 : decode cL_law 475 = .ok (.iload 4, 2) := by decide +kernel
theorem dL_law_477 : decode cL_law 477 = .ok (.iconst 1, 1) := by decide +kernel
theorem dL_law_478 : decode cL_law 478 = .ok (.iadd, 1) := by decide +kernel
theorem dL_law_479 : decode cL_law 479 = .ok (.iaload, 1) := by decide +kernel
theorem dL_law_480 : decode cL_law 480 = .ok (.aload_n 0, 1) := by decide +kernel
theorem dL_law_481 : decode cL_law 481 = .ok (.iload 4, 2) := by decide +kernel
theorem dL_law_483 : decode cL_law 483 = .ok (.iconst 2, 1) := by decide +kernel
theorem dL_law_484 : decode cL_law 484 = .ok (.iadd, 1) := by decide +kernel
theorem dL_law_485 : decode cL_law 485 = .ok (.iaload, 1) := by decide +kernel
theorem dL_law_486 : decode cL_law 486 = .ok (.invokevirtual 101, 3) := by decide +kernel
theorem dL_law_489 : decode cL_law 489 = .ok (.istore 6, 2) := by decide +kernel
theorem dL_law_491 : decode cL_law 491 = .ok (.aload_n 2, 1) := by decide +kernel
theorem dL_law_492 : decode cL_law 492 = .ok (.invokevirtual 83, 3) := by decide +kernel
theorem dL_law_495 : decode cL_law 495 = .ok (.iload 5, 2) := by decide +kernel
theorem dL_law_497 : decode cL_law 497 = .ok (.if_icmp .eq 5, 3) := by decide +kernel
theorem dL_law_500 : decode cL_law 500 = .ok (.iconst 0, 1) := by decide +kernel
theorem dL_law_501 : decode cL_law 501 = .ok (.ireturn, 1) := by decide +kernel
theorem dL_law_502 : decode cL_law 502 = .ok (.iload 5, 2) := by decide +kernel
theorem dL_law_504 : decode cL_law 504 = .ok (.ifCond .ne 15, 3) := by decide +kernel
theorem dL_law_507 : decode cL_law 507 = .ok (.aload_n 3, 1) := by decide +kernel
theorem dL_law_508 : decode cL_law 508 = .ok (.iconst 0, 1) := by decide +kernel
theorem dL_law_509 : decode cL_law 509 = .ok (.laload, 1) := by decide +kernel
theorem dL_law_510 : decode cL_law 510 = .ok (.iload 6, 2) := by decide +kernel
theorem dL_law_512 : decode cL_law 512 = .ok (.i2l, 1) := by decide +kernel
theorem dL_law_513 : decode cL_law 513 = .ok (.lcmp, 1) := by decide +kernel
theorem dL_law_514 : decode cL_law 514 = .ok (.ifCond .eq 5, 3) := by decide +kernel
theorem dL_law_517 : decode cL_law 517 = .ok (.iconst 0, 1) := by decide +kernel
theorem dL_law_518 : decode cL_law 518 = .ok (.ireturn, 1) := by decide +kernel
theorem dL_law_519 : decode cL_law 519 = .ok (.goto 1002, 3) := by decide +kernel
theorem dL_law_522 : decode cL_law 522 = .ok (.aload_n 1, 1) := by decide +kernel
theorem dL_law_523 : decode cL_law 523 = .ok (.aload_n 0, 1) := by decide +kernel
theorem dL_law_524 : decode cL_law 524 = .ok (.iload 4, 2) := by decide +kernel
theorem dL_law_526 : decode cL_law 526 = .ok (.iconst 1, 1) := by decide +kernel
theorem dL_law_527 : decode cL_law 527 = .ok (.iadd, 1) := by decide +kernel
theorem dL_law_528 : decode cL_law 528 = .ok (.iaload, 1) := by decide +kernel
theorem dL_law_529 : decode cL_law 529 = .ok (.aload_n 0, 1) := by decide +kernel
theorem dL_law_530 : decode cL_law 530 = .ok (.iload 4, 2) := by decide +kernel
theorem dL_law_532 : decode cL_law 532 = .ok (.iconst 2, 1) := by decide +kernel
theorem dL_law_533 : decode cL_law 533 = .ok (.iadd, 1) := by decide +kernel
theorem dL_law_534 : decode cL_law 534 = .ok (.iaload, 1) := by decide +kernel
theorem dL_law_535 : decode cL_law 535 = .ok (.aload_n 3, 1) := by decide +kernel
theorem dL_law_536 : decode cL_law 536 = .ok (.invokestatic 102, 3) := by decide +kernel
theorem dL_law_539 : decode cL_law 539 = .ok (.istore 5, 2) := by decide +kernel
theorem dL_law_541 : decode cL_law 541 = .ok (.aload_n 2, 1) := by decide +kernel
theorem dL_law_542 : decode cL_law 542 = .ok (.aload_n 0, 1) := by decide +kernel
theorem dL_law_543 : decode cL_law 543 = .ok (.iload 4, 2) := by decide +kernel
theorem dL_law_545 : decode cL_law 545 = .ok (.iconst 1, 1) := by decide +kernel
theorem dL_law_546 : decode cL_law 546 = .ok (.iadd, 1) := by decide +kernel
theorem dL_law_547 : decode cL_law 547 = .ok (.iaload, 1) := by decide +kernel
theorem dL_law_548 : decode cL_law 548 = .ok (.aload_n 0, 1) := by decide +kernel
theorem dL_law_549 : decode cL_law 549 = .ok (.iload 4, 2) := by decide +kernel
theorem dL_law_551 : decode cL_law 551 = .ok (.iconst 2, 1) := by decide +kernel
theorem dL_law_552 : decode cL_law 552 = .ok (.iadd, 1) := by decide +kernel
theorem dL_law_553 : decode cL_law 553 = .ok (.iaload, 1) := by decide +kernel
theorem dL_law_554 : decode cL_law 554 = .ok (.invokevirtual 104, 3) := by decide +kernel
theorem dL_law_557 : decode cL_law 557 = .ok (.istore 6, 2) := by decide +kernel
theorem dL_law_559 : decode cL_law 559 = .ok (.aload_n 2, 1) := by decide +kernel
theorem dL_law_560 : decode cL_law 560 = .ok (.invokevirtual 83, 3) := by decide +kernel
theorem dL_law_563 : decode cL_law 563 = .ok (.iload 5, 2) := by decide +kernel
theorem dL_law_565 : decode cL_law 565 = .ok (.if_icmp .eq 5, 3) := by decide +kernel
theorem dL_law_568 : decode cL_law 568 = .ok (.iconst 0, 1) := by decide +kernel
theorem dL_law_569 : decode cL_law 569 = .ok (.ireturn, 1) := by decide +kernel
theorem dL_law_570 : decode cL_law 570 = .ok (.iload 5, 2) := by decide +kernel
theorem dL_law_572 : decode cL_law 572 = .ok (.ifCond .ne 15, 3) := by decide +kernel
theorem dL_law_575 : decode cL_law 575 = .ok (.aload_n 3, 1) := by decide +kernel
theorem dL_law_576 : decode cL_law 576 = .ok (.iconst 0, 1) := by decide +kernel
theorem dL_law_577 : decode cL_law 577 = .ok (.laload, 1) := by decide +kernel
theorem dL_law_578 : decode cL_law 578 = .ok (.iload 6, 2) := by decide +kernel
theorem dL_law_580 : decode cL_law 580 = .ok (.i2l, 1) := by decide +kernel
theorem dL_law_581 : decode cL_law 581 = .ok (.lcmp, 1) := by decide +kernel
theorem dL_law_582 : decode cL_law 582 = .ok (.ifCond .eq 5, 3) := by decide +kernel
theorem dL_law_585 : decode cL_law 585 = .ok (.iconst 0, 1) := by decide +kernel
theorem dL_law_586 : decode cL_law 586 = .ok (.ireturn, 1) := by decide +kernel
theorem dL_law_587 : decode cL_law 587 = .ok (.goto 934, 3) := by decide +kernel
theorem dL_law_590 : decode cL_law 590 = .ok (.aload_n 1, 1) := by decide +kernel
theorem dL_law_591 : decode cL_law 591 = .ok (.invokevirtual 105, 3) := by decide +kernel
theorem dL_law_594 : decode cL_law 594 = .ok (.aload_n 2, 1) := by decide +kernel
theorem dL_law_595 : decode cL_law 595 = .ok (.invokevirtual 109, 3) := by decide +kernel
theorem dL_law_598 : decode cL_law 598 = .ok (.lcmp, 1) := by decide +kernel
theorem dL_law_599 : decode cL_law 599 = .ok (.ifCond .eq 922, 3) := by decide +kernel
theorem dL_law_602 : decode cL_law 602 = .ok (.iconst 0, 1) := by decide +kernel
theorem dL_law_603 : decode cL_law 603 = .ok (.ireturn, 1) := by decide +kernel
theorem dL_law_604 : decode cL_law 604 = .ok (.aload_n 1, 1) := by decide +kernel
theorem dL_law_605 : decode cL_law 605 = .ok (.aload_n 0, 1) := by decide +kernel
theorem dL_law_606 : decode cL_law 606 = .ok (.iload 4, 2) := by decide +kernel
theorem dL_law_608 : decode cL_law 608 = .ok (.iconst 1, 1) := by decide +kernel
theorem dL_law_609 : decode cL_law 609 = .ok (.iadd, 1) := by decide +kernel
theorem dL_law_610 : decode cL_law 610 = .ok (.iaload, 1) := by decide +kernel
theorem dL_law_611 : decode cL_law 611 = .ok (.aload_n 0, 1) := by decide +kernel
theorem dL_law_612 : decode cL_law 612 = .ok (.iload 4, 2) := by decide +kernel
theorem dL_law_614 : decode cL_law 614 = .ok (.iconst 2, 1) := by decide +kernel
theorem dL_law_615 : decode cL_law 615 = .ok (.iadd, 1) := by decide +kernel
theorem dL_law_616 : decode cL_law 616 = .ok (.iaload, 1) := by decide +kernel
theorem dL_law_617 : decode cL_law 617 = .ok (.aload_n 3, 1) := by decide +kernel
theorem dL_law_618 : decode cL_law 618 = .ok (.invokestatic 110, 3) := by decide +kernel
theorem dL_law_621 : decode cL_law 621 = .ok (.istore 5, 2) := by decide +kernel
theorem dL_law_623 : decode cL_law 623 = .ok (.aload_n 2, 1) := by decide +kernel
theorem dL_law_624 : decode cL_law 624 = .ok (.aload_n 0, 1) := by decide +kernel
theorem dL_law_625 : decode cL_law 625 = .ok (.iload 4, 2) := by decide +kernel
theorem dL_law_627 : decode cL_law 627 = .ok (.iconst 1, 1) := by decide +kernel
theorem dL_law_628 : decode cL_law 628 = .ok (.iadd, 1) := by decide +kernel
theorem dL_law_629 : decode cL_law 629 = .ok (.iaload, 1) := by decide +kernel
theorem dL_law_630 : decode cL_law 630 = .ok (.aload_n 0, 1) := by decide +kernel
theorem dL_law_631 : decode cL_law 631 = .ok (.iload 4, 2) := by decide +kernel
theorem dL_law_633 : decode cL_law 633 = .ok (.iconst 2, 1) := by decide +kernel
theorem dL_law_634 : decode cL_law 634 = .ok (.iadd, 1) := by decide +kernel
theorem dL_law_635 : decode cL_law 635 = .ok (.iaload, 1) := by decide +kernel
theorem dL_law_636 : decode cL_law 636 = .ok (.invokevirtual 112, 3) := by decide +kernel
theorem dL_law_639 : decode cL_law 639 = .ok (.istore 6, 2) := by decide +kernel
theorem dL_law_641 : decode cL_law 641 = .ok (.aload_n 2, 1) := by decide +kernel
theorem dL_law_642 : decode cL_law 642 = .ok (.invokevirtual 83, 3) := by decide +kernel
theorem dL_law_645 : decode cL_law 645 = .ok (.iload 5, 2) := by decide +kernel
theorem dL_law_647 : decode cL_law 647 = .ok (.if_icmp .eq 5, 3) := by decide +kernel
theorem dL_law_650 : decode cL_law 650 = .ok (.iconst 0, 1) := by decide +kernel
theorem dL_law_651 : decode cL_law 651 = .ok (.ireturn, 1) := by decide +kernel
theorem dL_law_652 : decode cL_law 652 = .ok (.iload 5, 2) := by decide +kernel
theorem dL_law_654 : decode cL_law 654 = .ok (.ifCond .ne 15, 3) := by decide +kernel
theorem dL_law_657 : decode cL_law 657 = .ok (.aload_n 3, 1) := by decide +kernel
theorem dL_law_658 : decode cL_law 658 = .ok (.iconst 0, 1) := by decide +kernel
theorem dL_law_659 : decode cL_law 659 = .ok (.laload, 1) := by decide +kernel
theorem dL_law_660 : decode cL_law 660 = .ok (.iload 6, 2) := by decide +kernel
theorem dL_law_662 : decode cL_law 662 = .ok (.i2l, 1) := by decide +kernel
theorem dL_law_663 : decode cL_law 663 = .ok (.lcmp, 1) := by decide +kernel
theorem dL_law_664 : decode cL_law 664 = .ok (.ifCond .eq 5, 3) := by decide +kernel
theorem dL_law_667 : decode cL_law 667 = .ok (.iconst 0, 1) := by decide +kernel
theorem dL_law_668 : decode cL_law 668 = .ok (.ireturn, 1) := by decide +kernel
theorem dL_law_669 : decode cL_law 669 = .ok (.goto 852, 3) := by decide +kernel
theorem dL_law_672 : decode cL_law 672 = .ok (.aload_n 1, 1) := by decide +kernel
theorem dL_law_673 : decode cL_law 673 = .ok (.aload_n 0, 1) := by decide +kernel
theorem dL_law_674 : decode cL_law 674 = .ok (.iload 4, 2) := by decide +kernel
theorem dL_law_676 : decode cL_law 676 = .ok (.iconst 1, 1) := by decide +kernel
theorem dL_law_677 : decode cL_law 677 = .ok (.iadd, 1) := by decide +kernel
theorem dL_law_678 : decode cL_law 678 = .ok (.iaload, 1) := by decide +kernel
theorem dL_law_679 : decode cL_law 679 = .ok (.invokevirtual 113, 3) := by decide +kernel
theorem dL_law_682 : decode cL_law 682 = .ok (.aload_n 2, 1) := by decide +kernel
theorem dL_law_683 : decode cL_law 683 = .ok (.aload_n 0, 1) := by decide +kernel
theorem dL_law_684 : decode cL_law 684 = .ok (.iload 4, 2) := by decide +kernel
theorem dL_law_686 : decode cL_law 686 = .ok (.iconst 1, 1) := by decide +kernel
theorem dL_law_687 : decode cL_law 687 = .ok (.iadd, 1) := by decide +kernel
theorem dL_law_688 : decode cL_law 688 = .ok (.iaload, 1) := by decide +kernel
theorem dL_law_689 : decode cL_law 689 = .ok (.invokevirtual 116, 3) := by decide +kernel
theorem dL_law_692 : decode cL_law 692 = .ok (.if_icmp .eq 829, 3) := by decide +kernel
theorem dL_law_695 : decode cL_law 695 = .ok (.iconst 0, 1) := by decide +kernel
theorem dL_law_696 : decode cL_law 696 = .ok (.ireturn, 1) := by decide +kernel
theorem dL_law_697 : decode cL_law 697 = .ok (.aload_n 1, 1) := by decide +kernel
theorem dL_law_698 : decode cL_law 698 = .ok (.aload_n 0, 1) := by decide +kernel
theorem dL_law_699 : decode cL_law 699 = .ok (.iload 4, 2) := by decide +kernel
theorem dL_law_701 : decode cL_law 701 = .ok (.iconst 1, 1) := by decide +kernel
theorem dL_law_702 : decode cL_law 702 = .ok (.iadd, 1) := by decide +kernel
theorem dL_law_703 : decode cL_law 703 = .ok (.iaload, 1) := by decide +kernel
theorem dL_law_704 : decode cL_law 704 = .ok (.aload_n 0, 1) := by decide +kernel
theorem dL_law_705 : decode cL_law 705 = .ok (.iload 4, 2) := by decide +kernel
theorem dL_law_707 : decode cL_law 707 = .ok (.iconst 2, 1) := by decide +kernel
theorem dL_law_708 : decode cL_law 708 = .ok (.iadd, 1) := by decide +kernel
theorem dL_law_709 : decode cL_law 709 = .ok (.iaload, 1) := by decide +kernel
theorem dL_law_710 : decode cL_law 710 = .ok (.aload_n 3, 1) := by decide +kernel
theorem dL_law_711 : decode cL_law 711 = .ok (.invokestatic 117, 3) := by decide +kernel
theorem dL_law_714 : decode cL_law 714 = .ok (.istore 5, 2) := by decide +kernel
theorem dL_law_716 : decode cL_law 716 = .ok (.aload_n 2, 1) := by decide +kernel
theorem dL_law_717 : decode cL_law 717 = .ok (.aload_n 0, 1) := by decide +kernel
theorem dL_law_718 : decode cL_law 718 = .ok (.iload 4, 2) := by decide +kernel
theorem dL_law_720 : decode cL_law 720 = .ok (.iconst 1, 1) := by decide +kernel
theorem dL_law_721 : decode cL_law 721 = .ok (.iadd, 1) := by decide +kernel
theorem dL_law_722 : decode cL_law 722 = .ok (.iaload, 1) := by decide +kernel
theorem dL_law_723 : decode cL_law 723 = .ok (.aload_n 0, 1) := by decide +kernel
theorem dL_law_724 : decode cL_law 724 = .ok (.iload 4, 2) := by decide +kernel
theorem dL_law_726 : decode cL_law 726 = .ok (.iconst 2, 1) := by decide +kernel
theorem dL_law_727 : decode cL_law 727 = .ok (.iadd, 1) := by decide +kernel
theorem dL_law_728 : decode cL_law 728 = .ok (.iaload, 1) := by decide +kernel
theorem dL_law_729 : decode cL_law 729 = .ok (.invokevirtual 119, 3) := by decide +kernel
theorem dL_law_732 : decode cL_law 732 = .ok (.istore 6, 2) := by decide +kernel
theorem dL_law_734 : decode cL_law 734 = .ok (.aload_n 2, 1) := by decide +kernel
theorem dL_law_735 : decode cL_law 735 = .ok (.invokevirtual 83, 3) := by decide +kernel
theorem dL_law_738 : decode cL_law 738 = .ok (.iload 5, 2) := by decide +kernel
theorem dL_law_740 : decode cL_law 740 = .ok (.if_icmp .eq 5, 3) := by decide +kernel
theorem dL_law_743 : decode cL_law 743 = .ok (.iconst 0, 1) := by decide +kernel
theorem dL_law_744 : decode cL_law 744 = .ok (.ireturn, 1) := by decide +kernel
theorem dL_law_745 : decode cL_law 745 = .ok (.iload 5, 2) := by decide +kernel
theorem dL_law_747 : decode cL_law 747 = .ok (.ifCond .ne 15, 3) := by decide +kernel
theorem dL_law_750 : decode cL_law 750 = .ok (.aload_n 3, 1) := by decide +kernel
theorem dL_law_751 : decode cL_law 751 = .ok (.iconst 0, 1) := by decide +kernel
theorem dL_law_752 : decode cL_law 752 = .ok (.laload, 1) := by decide +kernel
theorem dL_law_753 : decode cL_law 753 = .ok (.iload 6, 2) := by decide +kernel
theorem dL_law_755 : decode cL_law 755 = .ok (.i2l, 1) := by decide +kernel
theorem dL_law_756 : decode cL_law 756 = .ok (.lcmp, 1) := by decide +kernel
theorem dL_law_757 : decode cL_law 757 = .ok (.ifCond .eq 5, 3) := by decide +kernel
theorem dL_law_760 : decode cL_law 760 = .ok (.iconst 0, 1) := by decide +kernel
theorem dL_law_761 : decode cL_law 761 = .ok (.ireturn, 1) := by decide +kernel
theorem dL_law_762 : decode cL_law 762 = .ok (.goto 759, 3) := by decide +kernel
theorem dL_law_765 : decode cL_law 765 = .ok (.aload_n 1, 1) := by decide +kernel
theorem dL_law_766 : decode cL_law 766 = .ok (.aload_n 0, 1) := by decide +kernel
theorem dL_law_767 : decode cL_law 767 = .ok (.iload 4, 2) := by decide +kernel
theorem dL_law_769 : decode cL_law 769 = .ok (.iconst 1, 1) := by decide +kernel
theorem dL_law_770 : decode cL_law 770 = .ok (.iadd, 1) := by decide +kernel
theorem dL_law_771 : decode cL_law 771 = .ok (.iaload, 1) := by decide +kernel
theorem dL_law_772 : decode cL_law 772 = .ok (.invokevirtual 120, 3) := by decide +kernel
theorem dL_law_775 : decode cL_law 775 = .ok (.aload_n 2, 1) := by decide +kernel
theorem dL_law_776 : decode cL_law 776 = .ok (.aload_n 0, 1) := by decide +kernel
theorem dL_law_777 : decode cL_law 777 = .ok (.iload 4, 2) := by decide +kernel
theorem dL_law_779 : decode cL_law 779 = .ok (.iconst 1, 1) := by decide +kernel
theorem dL_law_780 : decode cL_law 780 = .ok (.iadd, 1) := by decide +kernel
theorem dL_law_781 : decode cL_law 781 = .ok (.iaload, 1) := by decide +kernel
theorem dL_law_782 : decode cL_law 782 = .ok (.invokevirtual 123, 3) := by decide +kernel
theorem dL_law_785 : decode cL_law 785 = .ok (.if_icmp .eq 736, 3) := by decide +kernel
theorem dL_law_788 : decode cL_law 788 = .ok (.iconst 0, 1) := by decide +kernel
theorem dL_law_789 : decode cL_law 789 = .ok (.ireturn, 1) := by decide +kernel
theorem dL_law_790 : decode cL_law 790 = .ok (.aload_n 1, 1) := by decide +kernel
theorem dL_law_791 : decode cL_law 791 = .ok (.invokevirtual 124, 3) := by decide +kernel
theorem dL_law_794 : decode cL_law 794 = .ok (.aload_n 2, 1) := by decide +kernel
theorem dL_law_795 : decode cL_law 795 = .ok (.invokevirtual 127, 3) := by decide +kernel
theorem dL_law_798 : decode cL_law 798 = .ok (.if_icmp .eq 723, 3) := by decide +kernel
theorem dL_law_801 : decode cL_law 801 = .ok (.iconst 0, 1) := by decide +kernel
theorem dL_law_802 : decode cL_law 802 = .ok (.ireturn, 1) := by decide +kernel
theorem dL_law_803 : decode cL_law 803 = .ok (.aload_n 1, 1) := by decide +kernel
theorem dL_law_804 : decode cL_law 804 = .ok (.aload_n 0, 1) := by decide +kernel
theorem dL_law_805 : decode cL_law 805 = .ok (.iload 4, 2) := by decide +kernel
theorem dL_law_807 : decode cL_law 807 = .ok (.iconst 1, 1) := by decide +kernel
theorem dL_law_808 : decode cL_law 808 = .ok (.iadd, 1) := by decide +kernel
theorem dL_law_809 : decode cL_law 809 = .ok (.iaload, 1) := by decide +kernel
theorem dL_law_810 : decode cL_law 810 = .ok (.aload_n 0, 1) := by decide +kernel
theorem dL_law_811 : decode cL_law 811 = .ok (.iload 4, 2) := by decide +kernel
theorem dL_law_813 : decode cL_law 813 = .ok (.iconst 2, 1) := by decide +kernel
theorem dL_law_814 : decode cL_law 814 = .ok (.iadd, 1) := by decide +kernel
theorem dL_law_815 : decode cL_law 815 = .ok (.iaload, 1) := by decide +kernel
theorem dL_law_816 : decode cL_law 816 = .ok (.aload_n 0, 1) := by decide +kernel
theorem dL_law_817 : decode cL_law 817 = .ok (.iload 4, 2) := by decide +kernel
theorem dL_law_819 : decode cL_law 819 = .ok (.iconst 3, 1) := by decide +kernel
theorem dL_law_820 : decode cL_law 820 = .ok (.iadd, 1) := by decide +kernel
theorem dL_law_821 : decode cL_law 821 = .ok (.iaload, 1) := by decide +kernel
theorem dL_law_822 : decode cL_law 822 = .ok (.aload_n 3, 1) := by decide +kernel
theorem dL_law_823 : decode cL_law 823 = .ok (.invokestatic 128, 3) := by decide +kernel
theorem dL_law_826 : decode cL_law 826 = .ok (.istore 5, 2) := by decide +kernel
theorem dL_law_828 : decode cL_law 828 = .ok (.aload_n 2, 1) := by decide +kernel
theorem dL_law_829 : decode cL_law 829 = .ok (.aload_n 0, 1) := by decide +kernel
theorem dL_law_830 : decode cL_law 830 = .ok (.iload 4, 2) := by decide +kernel
theorem dL_law_832 : decode cL_law 832 = .ok (.iconst 1, 1) := by decide +kernel
theorem dL_law_833 : decode cL_law 833 = .ok (.iadd, 1) := by decide +kernel
theorem dL_law_834 : decode cL_law 834 = .ok (.iaload, 1) := by decide +kernel
theorem dL_law_835 : decode cL_law 835 = .ok (.aload_n 0, 1) := by decide +kernel
theorem dL_law_836 : decode cL_law 836 = .ok (.iload 4, 2) := by decide +kernel
theorem dL_law_838 : decode cL_law 838 = .ok (.iconst 2, 1) := by decide +kernel
theorem dL_law_839 : decode cL_law 839 = .ok (.iadd, 1) := by decide +kernel
theorem dL_law_840 : decode cL_law 840 = .ok (.iaload, 1) := by decide +kernel
theorem dL_law_841 : decode cL_law 841 = .ok (.aload_n 0, 1) := by decide +kernel
theorem dL_law_842 : decode cL_law 842 = .ok (.iload 4, 2) := by decide +kernel
theorem dL_law_844 : decode cL_law 844 = .ok (.iconst 3, 1) := by decide +kernel
theorem dL_law_845 : decode cL_law 845 = .ok (.iadd, 1) := by decide +kernel
theorem dL_law_846 : decode cL_law 846 = .ok (.iaload, 1) := by decide +kernel
theorem dL_law_847 : decode cL_law 847 = .ok (.invokevirtual 131, 3) := by decide +kernel
theorem dL_law_850 : decode cL_law 850 = .ok (.istore 6, 2) := by decide +kernel
theorem dL_law_852 : decode cL_law 852 = .ok (.aload_n 2, 1) := by decide +kernel
theorem dL_law_853 : decode cL_law 853 = .ok (.invokevirtual 83, 3) := by decide +kernel
theorem dL_law_856 : decode cL_law 856 = .ok (.iload 5, 2) := by decide +kernel
theorem dL_law_858 : decode cL_law 858 = .ok (.if_icmp .eq 5, 3) := by decide +kernel
theorem dL_law_861 : decode cL_law 861 = .ok (.iconst 0, 1) := by decide +kernel
theorem dL_law_862 : decode cL_law 862 = .ok (.ireturn, 1) := by decide +kernel
theorem dL_law_863 : decode cL_law 863 = .ok (.iload 5, 2) := by decide +kernel
theorem dL_law_865 : decode cL_law 865 = .ok (.ifCond .ne 15, 3) := by decide +kernel
theorem dL_law_868 : decode cL_law 868 = .ok (.aload_n 3, 1) := by decide +kernel
theorem dL_law_869 : decode cL_law 869 = .ok (.iconst 0, 1) := by decide +kernel
theorem dL_law_870 : decode cL_law 870 = .ok (.laload, 1) := by decide +kernel
theorem dL_law_871 : decode cL_law 871 = .ok (.iload 6, 2) := by decide +kernel
theorem dL_law_873 : decode cL_law 873 = .ok (.i2l, 1) := by decide +kernel
theorem dL_law_874 : decode cL_law 874 = .ok (.lcmp, 1) := by decide +kernel
theorem dL_law_875 : decode cL_law 875 = .ok (.ifCond .eq 5, 3) := by decide +kernel
theorem dL_law_878 : decode cL_law 878 = .ok (.iconst 0, 1) := by decide +kernel
theorem dL_law_879 : decode cL_law 879 = .ok (.ireturn, 1) := by decide +kernel
theorem dL_law_880 : decode cL_law 880 = .ok (.goto 641, 3) := by decide +kernel
theorem dL_law_883 : decode cL_law 883 = .ok (.aload_n 1, 1) := by decide +kernel
theorem dL_law_884 : decode cL_law 884 = .ok (.aload_n 0, 1) := by decide +kernel
theorem dL_law_885 : decode cL_law 885 = .ok (.iload 4, 2) := by decide +kernel
theorem dL_law_887 : decode cL_law 887 = .ok (.iconst 1, 1) := by decide +kernel
theorem dL_law_888 : decode cL_law 888 = .ok (.iadd, 1) := by decide +kernel
theorem dL_law_889 : decode cL_law 889 = .ok (.iaload, 1) := by decide +kernel
theorem dL_law_890 : decode cL_law 890 = .ok (.aload_n 3, 1) := by decide +kernel
theorem dL_law_891 : decode cL_law 891 = .ok (.invokestatic 132, 3) := by decide +kernel
theorem dL_law_894 : decode cL_law 894 = .ok (.istore 5, 2) := by decide +kernel
theorem dL_law_896 : decode cL_law 896 = .ok (.aload_n 2, 1) := by decide +kernel
theorem dL_law_897 : decode cL_law 897 = .ok (.aload_n 0, 1) := by decide +kernel
theorem dL_law_898 : decode cL_law 898 = .ok (.iload 4, 2) := by decide +kernel
theorem dL_law_900 : decode cL_law 900 = .ok (.iconst 1, 1) := by decide +kernel
theorem dL_law_901 : decode cL_law 901 = .ok (.iadd, 1) := by decide +kernel
theorem dL_law_902 : decode cL_law 902 = .ok (.iaload, 1) := by decide +kernel
theorem dL_law_903 : decode cL_law 903 = .ok (.invokevirtual 134, 3) := by decide +kernel
theorem dL_law_906 : decode cL_law 906 = .ok (.istore 6, 2) := by decide +kernel
theorem dL_law_908 : decode cL_law 908 = .ok (.aload_n 2, 1) := by decide +kernel
theorem dL_law_909 : decode cL_law 909 = .ok (.invokevirtual 83, 3) := by decide +kernel
theorem dL_law_912 : decode cL_law 912 = .ok (.iload 5, 2) := by decide +kernel
theorem dL_law_914 : decode cL_law 914 = .ok (.if_icmp .eq 5, 3) := by decide +kernel
theorem dL_law_917 : decode cL_law 917 = .ok (.iconst 0, 1) := by decide +kernel
theorem dL_law_918 : decode cL_law 918 = .ok (.ireturn, 1) := by decide +kernel
theorem dL_law_919 : decode cL_law 919 = .ok (.iload 5, 2) := by decide +kernel
theorem dL_law_921 : decode cL_law 921 = .ok (.ifCond .ne 15, 3) := by decide +kernel
theorem dL_law_924 : decode cL_law 924 = .ok (.aload_n 3, 1) := by decide +kernel
theorem dL_law_925 : decode cL_law 925 = .ok (.iconst 0, 1) := by decide +kernel
theorem dL_law_926 : decode cL_law 926 = .ok (.laload, 1) := by decide +kernel
theorem dL_law_927 : decode cL_law 927 = .ok (.iload 6, 2) := by decide +kernel
theorem dL_law_929 : decode cL_law 929 = .ok (.i2l, 1) := by decide +kernel
theorem dL_law_930 : decode cL_law 930 = .ok (.lcmp, 1) := by decide +kernel
theorem dL_law_931 : decode cL_law 931 = .ok (.ifCond .eq 5, 3) := by decide +kernel
theorem dL_law_934 : decode cL_law 934 = .ok (.iconst 0, 1) := by decide +kernel
theorem dL_law_935 : decode cL_law 935 = .ok (.ireturn, 1) := by decide +kernel
theorem dL_law_936 : decode cL_law 936 = .ok (.goto 585, 3) := by decide +kernel
theorem dL_law_939 : decode cL_law 939 = .ok (.aload_n 1, 1) := by decide +kernel
theorem dL_law_940 : decode cL_law 940 = .ok (.invokevirtual 135, 3) := by decide +kernel
theorem dL_law_943 : decode cL_law 943 = .ok (.aload_n 2, 1) := by decide +kernel
theorem dL_law_944 : decode cL_law 944 = .ok (.invokevirtual 138, 3) := by decide +kernel
theorem dL_law_947 : decode cL_law 947 = .ok (.if_icmp .eq 574, 3) := by decide +kernel
theorem dL_law_950 : decode cL_law 950 = .ok (.iconst 0, 1) := by decide +kernel
theorem dL_law_951 : decode cL_law 951 = .ok (.ireturn, 1) := by decide +kernel
theorem dL_law_952 : decode cL_law 952 = .ok (.aload_n 1, 1) := by decide +kernel
theorem dL_law_953 : decode cL_law 953 = .ok (.aload_n 0, 1) := by decide +kernel
theorem dL_law_954 : decode cL_law 954 = .ok (.iload 4, 2) := by decide +kernel
theorem dL_law_956 : decode cL_law 956 = .ok (.iconst 1, 1) := by decide +kernel
theorem dL_law_957 : decode cL_law 957 = .ok (.iadd, 1) := by decide +kernel
theorem dL_law_958 : decode cL_law 958 = .ok (.iaload, 1) := by decide +kernel
theorem dL_law_959 : decode cL_law 959 = .ok (.aload_n 0, 1) := by decide +kernel
theorem dL_law_960 : decode cL_law 960 = .ok (.iload 4, 2) := by decide +kernel
theorem dL_law_962 : decode cL_law 962 = .ok (.iconst 2, 1) := by decide +kernel
theorem dL_law_963 : decode cL_law 963 = .ok (.iadd, 1) := by decide +kernel
theorem dL_law_964 : decode cL_law 964 = .ok (.iaload, 1) := by decide +kernel
theorem dL_law_965 : decode cL_law 965 = .ok (.aload_n 3, 1) := by decide +kernel
theorem dL_law_966 : decode cL_law 966 = .ok (.invokestatic 139, 3) := by decide +kernel
theorem dL_law_969 : decode cL_law 969 = .ok (.istore 5, 2) := by decide +kernel
theorem dL_law_971 : decode cL_law 971 = .ok (.aload_n 2, 1) := by decide +kernel
theorem dL_law_972 : decode cL_law 972 = .ok (.aload_n 0, 1) := by decide +kernel
theorem dL_law_973 : decode cL_law 973 = .ok (.iload 4, 2) := by decide +kernel
theorem dL_law_975 : decode cL_law 975 = .ok (.iconst 1, 1) := by decide +kernel
theorem dL_law_976 : decode cL_law 976 = .ok (.iadd, 1) := by decide +kernel
theorem dL_law_977 : decode cL_law 977 = .ok (.iaload, 1) := by decide +kernel
theorem dL_law_978 : decode cL_law 978 = .ok (.aload_n 0, 1) := by decide +kernel
theorem dL_law_979 : decode cL_law 979 = .ok (.iload 4, 2) := by decide +kernel
theorem dL_law_981 : decode cL_law 981 = .ok (.iconst 2, 1) := by decide +kernel
theorem dL_law_982 : decode cL_law 982 = .ok (.iadd, 1) := by decide +kernel
theorem dL_law_983 : decode cL_law 983 = .ok (.iaload, 1) := by decide +kernel
theorem dL_law_984 : decode cL_law 984 = .ok (.invokevirtual 141, 3) := by decide +kernel
theorem dL_law_987 : decode cL_law 987 = .ok (.istore 6, 2) := by decide +kernel
theorem dL_law_989 : decode cL_law 989 = .ok (.aload_n 2, 1) := by decide +kernel
theorem dL_law_990 : decode cL_law 990 = .ok (.invokevirtual 83, 3) := by decide +kernel
theorem dL_law_993 : decode cL_law 993 = .ok (.iload 5, 2) := by decide +kernel
theorem dL_law_995 : decode cL_law 995 = .ok (.if_icmp .eq 5, 3) := by decide +kernel
theorem dL_law_998 : decode cL_law 998 = .ok (.iconst 0, 1) := by decide +kernel
theorem dL_law_999 : decode cL_law 999 = .ok (.ireturn, 1) := by decide +kernel
theorem dL_law_1000 : decode cL_law 1000 = .ok (.iload 5, 2) := by decide +kernel
theorem dL_law_1002 : decode cL_law 1002 = .ok (.ifCond .ne 15, 3) := by decide +kernel
theorem dL_law_1005 : decode cL_law 1005 = .ok (.aload_n 3, 1) := by decide +kernel
theorem dL_law_1006 : decode cL_law 1006 = .ok (.iconst 0, 1) := by decide +kernel
theorem dL_law_1007 : decode cL_law 1007 = .ok (.laload, 1) := by decide +kernel
theorem dL_law_1008 : decode cL_law 1008 = .ok (.iload 6, 2) := by decide +kernel
theorem dL_law_1010 : decode cL_law 1010 = .ok (.i2l, 1) := by decide +kernel
theorem dL_law_1011 : decode cL_law 1011 = .ok (.lcmp, 1) := by decide +kernel
theorem dL_law_1012 : decode cL_law 1012 = .ok (.ifCond .eq 5, 3) := by decide +kernel
theorem dL_law_1015 : decode cL_law 1015 = .ok (.iconst 0, 1) := by decide +kernel
theorem dL_law_1016 : decode cL_law 1016 = .ok (.ireturn, 1) := by decide +kernel
theorem dL_law_1017 : decode cL_law 1017 = .ok (.goto 504, 3) := by decide +kernel
theorem dL_law_1020 : decode cL_law 1020 = .ok (.aload_n 1, 1) := by decide +kernel
theorem dL_law_1021 : decode cL_law 1021 = .ok (.aload_n 0, 1) := by decide +kernel
theorem dL_law_1022 : decode cL_law 1022 = .ok (.iload 4, 2) := by decide +kernel
theorem dL_law_1024 : decode cL_law 1024 = .ok (.iconst 1, 1) := by decide +kernel
theorem dL_law_1025 : decode cL_law 1025 = .ok (.iadd, 1) := by decide +kernel
theorem dL_law_1026 : decode cL_law 1026 = .ok (.iaload, 1) := by decide +kernel
theorem dL_law_1027 : decode cL_law 1027 = .ok (.aload_n 3, 1) := by decide +kernel
theorem dL_law_1028 : decode cL_law 1028 = .ok (.invokestatic 142, 3) := by decide +kernel
theorem dL_law_1031 : decode cL_law 1031 = .ok (.istore 5, 2) := by decide +kernel
theorem dL_law_1033 : decode cL_law 1033 = .ok (.aload_n 2, 1) := by decide +kernel
theorem dL_law_1034 : decode cL_law 1034 = .ok (.aload_n 0, 1) := by decide +kernel
theorem dL_law_1035 : decode cL_law 1035 = .ok (.iload 4, 2) := by decide +kernel
theorem dL_law_1037 : decode cL_law 1037 = .ok (.iconst 1, 1) := by decide +kernel
theorem dL_law_1038 : decode cL_law 1038 = .ok (.iadd, 1) := by decide +kernel
theorem dL_law_1039 : decode cL_law 1039 = .ok (.iaload, 1) := by decide +kernel
theorem dL_law_1040 : decode cL_law 1040 = .ok (.invokevirtual 144, 3) := by decide +kernel
theorem dL_law_1043 : decode cL_law 1043 = .ok (.istore 6, 2) := by decide +kernel
theorem dL_law_1045 : decode cL_law 1045 = .ok (.aload_n 2, 1) := by decide +kernel
theorem dL_law_1046 : decode cL_law 1046 = .ok (.invokevirtual 83, 3) := by decide +kernel
theorem dL_law_1049 : decode cL_law 1049 = .ok (.iload 5, 2) := by decide +kernel
theorem dL_law_1051 : decode cL_law 1051 = .ok (.if_icmp .eq 5, 3) := by decide +kernel
theorem dL_law_1054 : decode cL_law 1054 = .ok (.iconst 0, 1) := by decide +kernel
theorem dL_law_1055 : decode cL_law 1055 = .ok (.ireturn, 1) := by decide +kernel
theorem dL_law_1056 : decode cL_law 1056 = .ok (.iload 5, 2) := by decide +kernel
theorem dL_law_1058 : decode cL_law 1058 = .ok (.ifCond .ne 15, 3) := by decide +kernel
theorem dL_law_1061 : decode cL_law 1061 = .ok (.aload_n 3, 1) := by decide +kernel
theorem dL_law_1062 : decode cL_law 1062 = .ok (.iconst 0, 1) := by decide +kernel
theorem dL_law_1063 : decode cL_law 1063 = .ok (.laload, 1) := by decide +kernel
theorem dL_law_1064 : decode cL_law 1064 = .ok (.iload 6, 2) := by decide +kernel
theorem dL_law_1066 : decode cL_law 1066 = .ok (.i2l, 1) := by decide +kernel
theorem dL_law_1067 : decode cL_law 1067 = .ok (.lcmp, 1) := by decide +kernel
theorem dL_law_1068 : decode cL_law 1068 = .ok (.ifCond .eq 5, 3) := by decide +kernel
theorem dL_law_1071 : decode cL_law 1071 = .ok (.iconst 0, 1) := by decide +kernel
theorem dL_law_1072 : decode cL_law 1072 = .ok (.ireturn, 1) := by decide +kernel
theorem dL_law_1073 : decode cL_law 1073 = .ok (.goto 448, 3) := by decide +kernel
theorem dL_law_1076 : decode cL_law 1076 = .ok (.aload_n 1, 1) := by decide +kernel
theorem dL_law_1077 : decode cL_law 1077 = .ok (.aload_n 0, 1) := by decide +kernel
theorem dL_law_1078 : decode cL_law 1078 = .ok (.iload 4, 2) := by decide +kernel
theorem dL_law_1080 : decode cL_law 1080 = .ok (.iconst 1, 1) := by decide +kernel
theorem dL_law_1081 : decode cL_law 1081 = .ok (.iadd, 1) := by decide +kernel
theorem dL_law_1082 : decode cL_law 1082 = .ok (.iaload, 1) := by decide +kernel
theorem dL_law_1083 : decode cL_law 1083 = .ok (.aload_n 3, 1) := by decide +kernel
theorem dL_law_1084 : decode cL_law 1084 = .ok (.invokestatic 145, 3) := by decide +kernel
theorem dL_law_1087 : decode cL_law 1087 = .ok (.istore 5, 2) := by decide +kernel
theorem dL_law_1089 : decode cL_law 1089 = .ok (.aload_n 2, 1) := by decide +kernel
theorem dL_law_1090 : decode cL_law 1090 = .ok (.aload_n 0, 1) := by decide +kernel
theorem dL_law_1091 : decode cL_law 1091 = .ok (.iload 4, 2) := by decide +kernel
theorem dL_law_1093 : decode cL_law 1093 = .ok (.iconst 1, 1) := by decide +kernel
theorem dL_law_1094 : decode cL_law 1094 = .ok (.iadd, 1) := by decide +kernel
theorem dL_law_1095 : decode cL_law 1095 = .ok (.iaload, 1) := by decide +kernel
theorem dL_law_1096 : decode cL_law 1096 = .ok (.invokevirtual 147, 3) := by decide +kernel
theorem dL_law_1099 : decode cL_law 1099 = .ok (.istore 6, 2) := by decide +kernel
theorem dL_law_1101 : decode cL_law 1101 = .ok (.aload_n 2, 1) := by decide +kernel
theorem dL_law_1102 : decode cL_law 1102 = .ok (.invokevirtual 83, 3) := by decide +kernel
theorem dL_law_1105 : decode cL_law 1105 = .ok (.iload 5, 2) := by decide +kernel
theorem dL_law_1107 : decode cL_law 1107 = .ok (.if_icmp .eq 5, 3) := by decide +kernel
theorem dL_law_1110 : decode cL_law 1110 = .ok (.iconst 0, 1) := by decide +kernel
theorem dL_law_1111 : decode cL_law 1111 = .ok (.ireturn, 1) := by decide +kernel
theorem dL_law_1112 : decode cL_law 1112 = .ok (.iload 5, 2) := by decide +kernel
theorem dL_law_1114 : decode cL_law 1114 = .ok (.ifCond .ne 15, 3) := by decide +kernel
theorem dL_law_1117 : decode cL_law 1117 = .ok (.aload_n 3, 1) := by decide +kernel
theorem dL_law_1118 : decode cL_law 1118 = .ok (.iconst 0, 1) := by decide +kernel
theorem dL_law_1119 : decode cL_law 1119 = .ok (.laload, 1) := by decide +kernel
theorem dL_law_1120 : decode cL_law 1120 = .ok (.iload 6, 2) := by decide +kernel
theorem dL_law_1122 : decode cL_law 1122 = .ok (.i2l, 1) := by decide +kernel
theorem dL_law_1123 : decode cL_law 1123 = .ok (.lcmp, 1) := by decide +kernel
theorem dL_law_1124 : decode cL_law 1124 = .ok (.ifCond .eq 5, 3) := by decide +kernel
theorem dL_law_1127 : decode cL_law 1127 = .ok (.iconst 0, 1) := by decide +kernel
theorem dL_law_1128 : decode cL_law 1128 = .ok (.ireturn, 1) := by decide +kernel
theorem dL_law_1129 : decode cL_law 1129 = .ok (.goto 392, 3) := by decide +kernel
theorem dL_law_1132 : decode cL_law 1132 = .ok (.aload_n 1, 1) := by decide +kernel
theorem dL_law_1133 : decode cL_law 1133 = .ok (.invokevirtual 148, 3) := by decide +kernel
theorem dL_law_1136 : decode cL_law 1136 = .ok (.aload_n 2, 1) := by decide +kernel
theorem dL_law_1137 : decode cL_law 1137 = .ok (.invokevirtual 151, 3) := by decide +kernel
theorem dL_law_1140 : decode cL_law 1140 = .ok (.if_icmp .eq 381, 3) := by decide +kernel
theorem dL_law_1143 : decode cL_law 1143 = .ok (.iconst 0, 1) := by decide +kernel
theorem dL_law_1144 : decode cL_law 1144 = .ok (.ireturn, 1) := by decide +kernel
theorem dL_law_1145 : decode cL_law 1145 = .ok (.aload_n 1, 1) := by decide +kernel
theorem dL_law_1146 : decode cL_law 1146 = .ok (.aload_n 0, 1) := by decide +kernel
theorem dL_law_1147 : decode cL_law 1147 = .ok (.iload 4, 2) := by decide +kernel
theorem dL_law_1149 : decode cL_law 1149 = .ok (.iconst 1, 1) := by decide +kernel
theorem dL_law_1150 : decode cL_law 1150 = .ok (.iadd, 1) := by decide +kernel
theorem dL_law_1151 : decode cL_law 1151 = .ok (.iaload, 1) := by decide +kernel
theorem dL_law_1152 : decode cL_law 1152 = .ok (.aload_n 3, 1) := by decide +kernel
theorem dL_law_1153 : decode cL_law 1153 = .ok (.invokestatic 152, 3) := by decide +kernel
theorem dL_law_1156 : decode cL_law 1156 = .ok (.istore 5, 2) := by decide +kernel
theorem dL_law_1158 : decode cL_law 1158 = .ok (.aload_n 2, 1) := by decide +kernel
theorem dL_law_1159 : decode cL_law 1159 = .ok (.aload_n 0, 1) := by decide +kernel
theorem dL_law_1160 : decode cL_law 1160 = .ok (.iload 4, 2) := by decide +kernel
theorem dL_law_1162 : decode cL_law 1162 = .ok (.iconst 1, 1) := by decide +kernel
theorem dL_law_1163 : decode cL_law 1163 = .ok (.iadd, 1) := by decide +kernel
theorem dL_law_1164 : decode cL_law 1164 = .ok (.iaload, 1) := by decide +kernel
theorem dL_law_1165 : decode cL_law 1165 = .ok (.invokevirtual 154, 3) := by decide +kernel
theorem dL_law_1168 : decode cL_law 1168 = .ok (.istore 6, 2) := by decide +kernel
theorem dL_law_1170 : decode cL_law 1170 = .ok (.aload_n 2, 1) := by decide +kernel
theorem dL_law_1171 : decode cL_law 1171 = .ok (.invokevirtual 83, 3) := by decide +kernel
theorem dL_law_1174 : decode cL_law 1174 = .ok (.iload 5, 2) := by decide +kernel
theorem dL_law_1176 : decode cL_law 1176 = .ok (.if_icmp .eq 5, 3) := by decide +kernel
theorem dL_law_1179 : decode cL_law 1179 = .ok (.iconst 0, 1) := by decide +kernel
theorem dL_law_1180 : decode cL_law 1180 = .ok (.ireturn, 1) := by decide +kernel
theorem dL_law_1181 : decode cL_law 1181 = .ok (.iload 5, 2) := by decide +kernel
theorem dL_law_1183 : decode cL_law 1183 = .ok (.ifCond .ne 15, 3) := by decide +kernel
theorem dL_law_1186 : decode cL_law 1186 = .ok (.aload_n 3, 1) := by decide +kernel
theorem dL_law_1187 : decode cL_law 1187 = .ok (.iconst 0, 1) := by decide +kernel
theorem dL_law_1188 : decode cL_law 1188 = .ok (.laload, 1) := by decide +kernel
theorem dL_law_1189 : decode cL_law 1189 = .ok (.iload 6, 2) := by decide +kernel
theorem dL_law_1191 : decode cL_law 1191 = .ok (.i2l, 1) := by decide +kernel
theorem dL_law_1192 : decode cL_law 1192 = .ok (.lcmp, 1) := by decide +kernel
theorem dL_law_1193 : decode cL_law 1193 = .ok (.ifCond .eq 5, 3) := by decide +kernel
theorem dL_law_1196 : decode cL_law 1196 = .ok (.iconst 0, 1) := by decide +kernel
theorem dL_law_1197 : decode cL_law 1197 = .ok (.ireturn, 1) := by decide +kernel
theorem dL_law_1198 : decode cL_law 1198 = .ok (.goto 323, 3) := by decide +kernel
theorem dL_law_1201 : decode cL_law 1201 = .ok (.aload_n 1, 1) := by decide +kernel
theorem dL_law_1202 : decode cL_law 1202 = .ok (.aload_n 0, 1) := by decide +kernel
theorem dL_law_1203 : decode cL_law 1203 = .ok (.iload 4, 2) := by decide +kernel
theorem dL_law_1205 : decode cL_law 1205 = .ok (.iconst 1, 1) := by decide +kernel
theorem dL_law_1206 : decode cL_law 1206 = .ok (.iadd, 1) := by decide +kernel
theorem dL_law_1207 : decode cL_law 1207 = .ok (.iaload, 1) := by decide +kernel
theorem dL_law_1208 : decode cL_law 1208 = .ok (.aload_n 3, 1) := by decide +kernel
theorem dL_law_1209 : decode cL_law 1209 = .ok (.invokestatic 155, 3) := by decide +kernel
theorem dL_law_1212 : decode cL_law 1212 = .ok (.istore 5, 2) := by decide +kernel
theorem dL_law_1214 : decode cL_law 1214 = .ok (.aload_n 2, 1) := by decide +kernel
theorem dL_law_1215 : decode cL_law 1215 = .ok (.aload_n 0, 1) := by decide +kernel
theorem dL_law_1216 : decode cL_law 1216 = .ok (.iload 4, 2) := by decide +kernel
theorem dL_law_1218 : decode cL_law 1218 = .ok (.iconst 1, 1) := by decide +kernel
theorem dL_law_1219 : decode cL_law 1219 = .ok (.iadd, 1) := by decide +kernel
theorem dL_law_1220 : decode cL_law 1220 = .ok (.iaload, 1) := by decide +kernel
theorem dL_law_1221 : decode cL_law 1221 = .ok (.invokevirtual 157, 3) := by decide +kernel
theorem dL_law_1224 : decode cL_law 1224 = .ok (.istore 6, 2) := by decide +kernel
theorem dL_law_1226 : decode cL_law 1226 = .ok (.aload_n 2, 1) := by decide +kernel
theorem dL_law_1227 : decode cL_law 1227 = .ok (.invokevirtual 83, 3) := by decide +kernel
theorem dL_law_1230 : decode cL_law 1230 = .ok (.iload 5, 2) := by decide +kernel
theorem dL_law_1232 : decode cL_law 1232 = .ok (.if_icmp .eq 5, 3) := by decide +kernel
theorem dL_law_1235 : decode cL_law 1235 = .ok (.iconst 0, 1) := by decide +kernel
theorem dL_law_1236 : decode cL_law 1236 = .ok (.ireturn, 1) := by decide +kernel
theorem dL_law_1237 : decode cL_law 1237 = .ok (.iload 5, 2) := by decide +kernel
theorem dL_law_1239 : decode cL_law 1239 = .ok (.ifCond .ne 15, 3) := by decide +kernel
theorem dL_law_1242 : decode cL_law 1242 = .ok (.aload_n 3, 1) := by decide +kernel
theorem dL_law_1243 : decode cL_law 1243 = .ok (.iconst 0, 1) := by decide +kernel
theorem dL_law_1244 : decode cL_law 1244 = .ok (.laload, 1) := by decide +kernel
theorem dL_law_1245 : decode cL_law 1245 = .ok (.iload 6, 2) := by decide +kernel
theorem dL_law_1247 : decode cL_law 1247 = .ok (.i2l, 1) := by decide +kernel
theorem dL_law_1248 : decode cL_law 1248 = .ok (.lcmp, 1) := by decide +kernel
theorem dL_law_1249 : decode cL_law 1249 = .ok (.ifCond .eq 5, 3) := by decide +kernel
theorem dL_law_1252 : decode cL_law 1252 = .ok (.iconst 0, 1) := by decide +kernel
theorem dL_law_1253 : decode cL_law 1253 = .ok (.ireturn, 1) := by decide +kernel
theorem dL_law_1254 : decode cL_law 1254 = .ok (.goto 267, 3) := by decide +kernel
theorem dL_law_1257 : decode cL_law 1257 = .ok (.aload_n 1, 1) := by decide +kernel
theorem dL_law_1258 : decode cL_law 1258 = .ok (.aload_n 0, 1) := by decide +kernel
theorem dL_law_1259 : decode cL_law 1259 = .ok (.iload 4, 2) := by decide +kernel
theorem dL_law_1261 : decode cL_law 1261 = .ok (.iconst 1, 1) := by decide +kernel
theorem dL_law_1262 : decode cL_law 1262 = .ok (.iadd, 1) := by decide +kernel
theorem dL_law_1263 : decode cL_law 1263 = .ok (.iaload, 1) := by decide +kernel
theorem dL_law_1264 : decode cL_law 1264 = .ok (.aload_n 0, 1) := by decide +kernel
theorem dL_law_1265 : decode cL_law 1265 = .ok (.iload 4, 2) := by decide +kernel
theorem dL_law_1267 : decode cL_law 1267 = .ok (.iconst 2, 1) := by decide +kernel
theorem dL_law_1268 : decode cL_law 1268 = .ok (.iadd, 1) := by decide +kernel
theorem dL_law_1269 : decode cL_law 1269 = .ok (.iaload, 1) := by decide +kernel
theorem dL_law_1270 : decode cL_law 1270 = .ok (.invokevirtual 158, 3) := by decide +kernel
theorem dL_law_1273 : decode cL_law 1273 = .ok (.aload_n 2, 1) := by decide +kernel
theorem dL_law_1274 : decode cL_law 1274 = .ok (.aload_n 0, 1) := by decide +kernel
theorem dL_law_1275 : decode cL_law 1275 = .ok (.iload 4, 2) := by decide +kernel
theorem dL_law_1277 : decode cL_law 1277 = .ok (.iconst 1, 1) := by decide +kernel
theorem dL_law_1278 : decode cL_law 1278 = .ok (.iadd, 1) := by decide +kernel
theorem dL_law_1279 : decode cL_law 1279 = .ok (.iaload, 1) := by decide +kernel
theorem dL_law_1280 : decode cL_law 1280 = .ok (.aload_n 0, 1) := by decide +kernel
theorem dL_law_1281 : decode cL_law 1281 = .ok (.iload 4, 2) := by decide +kernel
theorem dL_law_1283 : decode cL_law 1283 = .ok (.iconst 2, 1) := by decide +kernel
theorem dL_law_1284 : decode cL_law 1284 = .ok (.iadd, 1) := by decide +kernel
theorem dL_law_1285 : decode cL_law 1285 = .ok (.iaload, 1) := by decide +kernel
theorem dL_law_1286 : decode cL_law 1286 = .ok (.invokevirtual 161, 3) := by decide +kernel
theorem dL_law_1289 : decode cL_law 1289 = .ok (.if_icmp .eq 232, 3) := by decide +kernel
theorem dL_law_1292 : decode cL_law 1292 = .ok (.iconst 0, 1) := by decide +kernel
theorem dL_law_1293 : decode cL_law 1293 = .ok (.ireturn, 1) := by decide +kernel
theorem dL_law_1294 : decode cL_law 1294 = .ok (.aload_n 1, 1) := by decide +kernel
theorem dL_law_1295 : decode cL_law 1295 = .ok (.aload_n 0, 1) := by decide +kernel
theorem dL_law_1296 : decode cL_law 1296 = .ok (.iload 4, 2) := by decide +kernel
theorem dL_law_1298 : decode cL_law 1298 = .ok (.iconst 1, 1) := by decide +kernel
theorem dL_law_1299 : decode cL_law 1299 = .ok (.iadd, 1) := by decide +kernel
theorem dL_law_1300 : decode cL_law 1300 = .ok (.iaload, 1) := by decide +kernel
theorem dL_law_1301 : decode cL_law 1301 = .ok (.aload_n 3, 1) := by decide +kernel
theorem dL_law_1302 : decode cL_law 1302 = .ok (.invokestatic 162, 3) := by decide +kernel
theorem dL_law_1305 : decode cL_law 1305 = .ok (.istore 5, 2) := by decide +kernel
theorem dL_law_1307 : decode cL_law 1307 = .ok (.aload_n 2, 1) := by decide +kernel
theorem dL_law_1308 : decode cL_law 1308 = .ok (.aload_n 0, 1) := by decide +kernel
theorem dL_law_1309 : decode cL_law 1309 = .ok (.iload 4, 2) := by decide +kernel
theorem dL_law_1311 : decode cL_law 1311 = .ok (.iconst 1, 1) := by decide +kernel
theorem dL_law_1312 : decode cL_law 1312 = .ok (.iadd, 1) := by decide +kernel
theorem dL_law_1313 : decode cL_law 1313 = .ok (.iaload, 1) := by decide +kernel
theorem dL_law_1314 : decode cL_law 1314 = .ok (.invokevirtual 164, 3) := by decide +kernel
theorem dL_law_1317 : decode cL_law 1317 = .ok (.istore 6, 2) := by decide +kernel
theorem dL_law_1319 : decode cL_law 1319 = .ok (.aload_n 2, 1) := by decide +kernel
theorem dL_law_1320 : decode cL_law 1320 = .ok (.invokevirtual 83, 3) := by decide +kernel
theorem dL_law_1323 : decode cL_law 1323 = .ok (.iload 5, 2) := by decide +kernel
theorem dL_law_1325 : decode cL_law 1325 = .ok (.if_icmp .eq 5, 3) := by decide +kernel
theorem dL_law_1328 : decode cL_law 1328 = .ok (.iconst 0, 1) := by decide +kernel
theorem dL_law_1329 : decode cL_law 1329 = .ok (.ireturn, 1) := by decide +kernel
theorem dL_law_1330 : decode cL_law 1330 = .ok (.iload 5, 2) := by decide +kernel
theorem dL_law_1332 : decode cL_law 1332 = .ok (.ifCond .ne 15, 3) := by decide +kernel
theorem dL_law_1335 : decode cL_law 1335 = .ok (.aload_n 3, 1) := by decide +kernel
theorem dL_law_1336 : decode cL_law 1336 = .ok (.iconst 0, 1) := by decide +kernel
theorem dL_law_1337 : decode cL_law 1337 = .ok (.laload, 1) := by decide +kernel
theorem dL_law_1338 : decode cL_law 1338 = .ok (.iload 6, 2) := by decide +kernel
theorem dL_law_1340 : decode cL_law 1340 = .ok (.i2l, 1) := by decide +kernel
theorem dL_law_1341 : decode cL_law 1341 = .ok (.lcmp, 1) := by decide +kernel
theorem dL_law_1342 : decode cL_law 1342 = .ok (.ifCond .eq 5, 3) := by decide +kernel
theorem dL_law_1345 : decode cL_law 1345 = .ok (.iconst 0, 1) := by decide +kernel
theorem dL_law_1346 : decode cL_law 1346 = .ok (.ireturn, 1) := by decide +kernel
theorem dL_law_1347 : decode cL_law 1347 = .ok (.goto 174, 3) := by decide +kernel
theorem dL_law_1350 : decode cL_law 1350 = .ok (.aload_n 1, 1) := by decide +kernel
theorem dL_law_1351 : decode cL_law 1351 = .ok (.aload_n 0, 1) := by decide +kernel
theorem dL_law_1352 : decode cL_law 1352 = .ok (.iload 4, 2) := by decide +kernel
theorem dL_law_1354 : decode cL_law 1354 = .ok (.iconst 1, 1) := by decide +kernel
theorem dL_law_1355 : decode cL_law 1355 = .ok (.iadd, 1) := by decide +kernel
theorem dL_law_1356 : decode cL_law 1356 = .ok (.iaload, 1) := by decide +kernel
theorem dL_law_1357 : decode cL_law 1357 = .ok (.aload_n 3, 1) := by decide +kernel
theorem dL_law_1358 : decode cL_law 1358 = .ok (.invokestatic 165, 3) := by decide +kernel
theorem dL_law_1361 : decode cL_law 1361 = .ok (.istore 5, 2) := by decide +kernel
theorem dL_law_1363 : decode cL_law 1363 = .ok (.aload_n 2, 1) := by decide +kernel
theorem dL_law_1364 : decode cL_law 1364 = .ok (.aload_n 0, 1) := by decide +kernel
theorem dL_law_1365 : decode cL_law 1365 = .ok (.iload 4, 2) := by decide +kernel
theorem dL_law_1367 : decode cL_law 1367 = .ok (.iconst 1, 1) := by decide +kernel
theorem dL_law_1368 : decode cL_law 1368 = .ok (.iadd, 1) := by decide +kernel
theorem dL_law_1369 : decode cL_law 1369 = .ok (.iaload, 1) := by decide +kernel
theorem dL_law_1370 : decode cL_law 1370 = .ok (.invokevirtual 167, 3) := by decide +kernel
theorem dL_law_1373 : decode cL_law 1373 = .ok (.istore 6, 2) := by decide +kernel
theorem dL_law_1375 : decode cL_law 1375 = .ok (.aload_n 2, 1) := by decide +kernel
theorem dL_law_1376 : decode cL_law 1376 = .ok (.invokevirtual 83, 3) := by decide +kernel
theorem dL_law_1379 : decode cL_law 1379 = .ok (.iload 5, 2) := by decide +kernel
theorem dL_law_1381 : decode cL_law 1381 = .ok (.if_icmp .eq 5, 3) := by decide +kernel
theorem dL_law_1384 : decode cL_law 1384 = .ok (.iconst 0, 1) := by decide +kernel
theorem dL_law_1385 : decode cL_law 1385 = .ok (.ireturn, 1) := by decide +kernel
theorem dL_law_1386 : decode cL_law 1386 = .ok (.iload 5, 2) := by decide +kernel
theorem dL_law_1388 : decode cL_law 1388 = .ok (.ifCond .ne 15, 3) := by decide +kernel
theorem dL_law_1391 : decode cL_law 1391 = .ok (.aload_n 3, 1) := by decide +kernel
theorem dL_law_1392 : decode cL_law 1392 = .ok (.iconst 0, 1) := by decide +kernel
theorem dL_law_1393 : decode cL_law 1393 = .ok (.laload, 1) := by decide +kernel
theorem dL_law_1394 : decode cL_law 1394 = .ok (.iload 6, 2) := by decide +kernel
theorem dL_law_1396 : decode cL_law 1396 = .ok (.i2l, 1) := by decide +kernel
theorem dL_law_1397 : decode cL_law 1397 = .ok (.lcmp, 1) := by decide +kernel
theorem dL_law_1398 : decode cL_law 1398 = .ok (.ifCond .eq 5, 3) := by decide +kernel
theorem dL_law_1401 : decode cL_law 1401 = .ok (.iconst 0, 1) := by decide +kernel
theorem dL_law_1402 : decode cL_law 1402 = .ok (.ireturn, 1) := by decide +kernel
theorem dL_law_1403 : decode cL_law 1403 = .ok (.goto 118, 3) := by decide +kernel
theorem dL_law_1406 : decode cL_law 1406 = .ok (.aload_n 1, 1) := by decide +kernel
theorem dL_law_1407 : decode cL_law 1407 = .ok (.invokevirtual 168, 3) := by decide +kernel
theorem dL_law_1410 : decode cL_law 1410 = .ok (.aload_n 2, 1) := by decide +kernel
theorem dL_law_1411 : decode cL_law 1411 = .ok (.invokevirtual 171, 3) := by decide +kernel
theorem dL_law_1414 : decode cL_law 1414 = .ok (.goto 107, 3) := by decide +kernel
theorem dL_law_1417 : decode cL_law 1417 = .ok (.aload_n 1, 1) := by decide +kernel
theorem dL_law_1418 : decode cL_law 1418 = .ok (.aload_n 0, 1) := by decide +kernel
theorem dL_law_1419 : decode cL_law 1419 = .ok (.iload 4, 2) := by decide +kernel
theorem dL_law_1421 : decode cL_law 1421 = .ok (.iconst 1, 1) := by decide +kernel
theorem dL_law_1422 : decode cL_law 1422 = .ok (.iadd, 1) := by decide +kernel
theorem dL_law_1423 : decode cL_law 1423 = .ok (.iaload, 1) := by decide +kernel
theorem dL_law_1424 : decode cL_law 1424 = .ok (.aload_n 0, 1) := by decide +kernel
theorem dL_law_1425 : decode cL_law 1425 = .ok (.iload 4, 2) := by decide +kernel
theorem dL_law_1427 : decode cL_law 1427 = .ok (.iconst 2, 1) := by decide +kernel
theorem dL_law_1428 : decode cL_law 1428 = .ok (.iadd, 1) := by decide +kernel
theorem dL_law_1429 : decode cL_law 1429 = .ok (.iaload, 1) := by decide +kernel
theorem dL_law_1430 : decode cL_law 1430 = .ok (.aload_n 0, 1) := by decide +kernel
theorem dL_law_1431 : decode cL_law 1431 = .ok (.iload 4, 2) := by decide +kernel
theorem dL_law_1433 : decode cL_law 1433 = .ok (.iconst 3, 1) := by decide +kernel
theorem dL_law_1434 : decode cL_law 1434 = .ok (.iadd, 1) := by decide +kernel
theorem dL_law_1435 : decode cL_law 1435 = .ok (.iaload, 1) := by decide +kernel
theorem dL_law_1436 : decode cL_law 1436 = .ok (.aload_n 3, 1) := by decide +kernel
theorem dL_law_1437 : decode cL_law 1437 = .ok (.invokestatic 172, 3) := by decide +kernel
theorem dL_law_1440 : decode cL_law 1440 = .ok (.istore 5, 2) := by decide +kernel
theorem dL_law_1442 : decode cL_law 1442 = .ok (.aload_n 2, 1) := by decide +kernel
theorem dL_law_1443 : decode cL_law 1443 = .ok (.aload_n 0, 1) := by decide +kernel
theorem dL_law_1444 : decode cL_law 1444 = .ok (.iload 4, 2) := by decide +kernel
theorem dL_law_1446 : decode cL_law 1446 = .ok (.iconst 1, 1) := by decide +kernel
theorem dL_law_1447 : decode cL_law 1447 = .ok (.iadd, 1) := by decide +kernel
theorem dL_law_1448 : decode cL_law 1448 = .ok (.iaload, 1) := by decide +kernel
theorem dL_law_1449 : decode cL_law 1449 = .ok (.aload_n 0, 1) := by decide +kernel
theorem dL_law_1450 : decode cL_law 1450 = .ok (.iload 4, 2) := by decide +kernel
theorem dL_law_1452 : decode cL_law 1452 = .ok (.iconst 2, 1) := by decide +kernel
theorem dL_law_1453 : decode cL_law 1453 = .ok (.iadd, 1) := by decide +kernel
theorem dL_law_1454 : decode cL_law 1454 = .ok (.iaload, 1) := by decide +kernel
theorem dL_law_1455 : decode cL_law 1455 = .ok (.aload_n 0, 1) := by decide +kernel
theorem dL_law_1456 : decode cL_law 1456 = .ok (.iload 4, 2) := by decide +kernel
theorem dL_law_1458 : decode cL_law 1458 = .ok (.iconst 3, 1) := by decide +kernel
theorem dL_law_1459 : decode cL_law 1459 = .ok (.iadd, 1) := by decide +kernel
theorem dL_law_1460 : decode cL_law 1460 = .ok (.iaload, 1) := by decide +kernel
theorem dL_law_1461 : decode cL_law 1461 = .ok (.invokevirtual 174, 3) := by decide +kernel
theorem dL_law_1464 : decode cL_law 1464 = .ok (.istore 6, 2) := by decide +kernel
theorem dL_law_1466 : decode cL_law 1466 = .ok (.aload_n 2, 1) := by decide +kernel
theorem dL_law_1467 : decode cL_law 1467 = .ok (.invokevirtual 83, 3) := by decide +kernel
theorem dL_law_1470 : decode cL_law 1470 = .ok (.iload 5, 2) := by decide +kernel
theorem dL_law_1472 : decode cL_law 1472 = .ok (.if_icmp .eq 5, 3) := by decide +kernel
theorem dL_law_1475 : decode cL_law 1475 = .ok (.iconst 0, 1) := by decide +kernel
theorem dL_law_1476 : decode cL_law 1476 = .ok (.ireturn, 1) := by decide +kernel
theorem dL_law_1477 : decode cL_law 1477 = .ok (.iload 5, 2) := by decide +kernel
theorem dL_law_1479 : decode cL_law 1479 = .ok (.ifCond .ne 15, 3) := by decide +kernel
theorem dL_law_1482 : decode cL_law 1482 = .ok (.aload_n 3, 1) := by decide +kernel
theorem dL_law_1483 : decode cL_law 1483 = .ok (.iconst 0, 1) := by decide +kernel
theorem dL_law_1484 : decode cL_law 1484 = .ok (.laload, 1) := by decide +kernel
theorem dL_law_1485 : decode cL_law 1485 = .ok (.iload 6, 2) := by decide +kernel
theorem dL_law_1487 : decode cL_law 1487 = .ok (.i2l, 1) := by decide +kernel
theorem dL_law_1488 : decode cL_law 1488 = .ok (.lcmp, 1) := by decide +kernel
theorem dL_law_1489 : decode cL_law 1489 = .ok (.ifCond .eq 5, 3) := by decide +kernel
theorem dL_law_1492 : decode cL_law 1492 = .ok (.iconst 0, 1) := by decide +kernel
theorem dL_law_1493 : decode cL_law 1493 = .ok (.ireturn, 1) := by decide +kernel
theorem dL_law_1494 : decode cL_law 1494 = .ok (.goto 27, 3) := by decide +kernel
theorem dL_law_1497 : decode cL_law 1497 = .ok (.aload_n 1, 1) := by decide +kernel
theorem dL_law_1498 : decode cL_law 1498 = .ok (.invokevirtual 175, 3) := by decide +kernel
theorem dL_law_1501 : decode cL_law 1501 = .ok (.aload_n 2, 1) := by decide +kernel
theorem dL_law_1502 : decode cL_law 1502 = .ok (.invokevirtual 178, 3) := by decide +kernel
theorem dL_law_1505 : decode cL_law 1505 = .ok (.goto 16, 3) := by decide +kernel
theorem dL_law_1508 : decode cL_law 1508 = .ok (.aload_n 1, 1) := by decide +kernel
theorem dL_law_1509 : decode cL_law 1509 = .ok (.invokevirtual 179, 3) := by decide +kernel
theorem dL_law_1512 : decode cL_law 1512 = .ok (.aload_n 2, 1) := by decide +kernel
theorem dL_law_1513 : decode cL_law 1513 = .ok (.invokevirtual 183, 3) := by decide +kernel
theorem dL_law_1516 : decode cL_law 1516 = .ok (.if_icmp .eq 5, 3) := by decide +kernel
theorem dL_law_1519 : decode cL_law 1519 = .ok (.iconst 0, 1) := by decide +kernel
theorem dL_law_1520 : decode cL_law 1520 = .ok (.ireturn, 1) := by decide +kernel
theorem dL_law_1521 : decode cL_law 1521 = .ok (.iinc 4 6, 3) := by decide +kernel
theorem dL_law_1524 : decode cL_law 1524 = .ok (.goto (-1501), 3) := by decide +kernel
theorem dL_law_1527 : decode cL_law 1527 = .ok (.iconst 1, 1) := by decide +kernel
theorem dL_law_1528 : decode cL_law 1528 = .ok (.ireturn, 1) := by decide +kernel
abbrev vwCl : List vw_C := [(RX0, TX0, 5), (RX1, TX1, 4), (RX2, TX2, 7), (RX3, TX3, 3), (RX4, TX4, 12), (RX5, TX5, 7), (RX6, TX6, 11), (RX7, TX7, 5), (RX8, TX8, 2), (RX9, TX9, 3), (RX10, TX10, 6), (RX11, TX11, 13), (RX12, TX12, 51)]
